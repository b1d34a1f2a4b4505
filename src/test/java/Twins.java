import java.util.function.Consumer;
import java.util.function.Supplier;

/**
 * Shows that a refused call changes nothing: two forges are made by the same calls, one of them gets
 * the refused call too, and behind that both must tell the same of themselves. Asking everything of
 * one forge before and after the call would take more than the 512 calls that are promised.
 */
final class Twins {
    private static final int MOST_CHARACTERS = 100;

    private Twins() {
    }

    /** The call itself says whether its answer is the one that is due. */
    static void stay(String what, Supplier<PacketForge> make, Consumer<PacketForge> call) {
        PacketForge other = make.get();
        PacketForge called = make.get();
        call.accept(called);
        String due = state(other);
        String got = state(called);
        if (!got.equals(due)) {
            Checks.tell(what + " changed something: " + got + ", due is " + due);
        }
    }

    static void stayWhenFalse(String what, Supplier<PacketForge> make, Ask ask) {
        stay(what, make, forge -> Checks.no(what, ask.of(forge)));
    }

    static void stayWhenThrown(String what, Supplier<PacketForge> make,
            Class<? extends RuntimeException> due, Consumer<PacketForge> call) {
        stay(what, make, forge -> Checks.fails(what, due, () -> call.accept(forge)));
    }

    interface Ask {
        boolean of(PacketForge forge);
    }

    /** The text can't be asked for but by compiling it, which comes last as it changes the layout. */
    private static String state(PacketForge forge) {
        StringBuilder all = new StringBuilder();
        all.append("text of ").append(Checks.textLength(forge, MOST_CHARACTERS));
        all.append(", layout").append(layout(forge));
        all.append(", packet");
        for (int i = 0, size = forge.size(); i < size; i++) {
            all.append(' ').append(forge.byteAt(i));
        }
        all.append(", record");
        int values = forge.values();
        for (int i = 0; i < values; i++) {
            all.append(' ').append(forge.value(i)).append('/').append(forge.name(i));
        }
        all.append(", compiled ").append(forge.compile()).append(layout(forge));
        return all.toString();
    }

    private static String layout(PacketForge forge) {
        StringBuilder all = new StringBuilder();
        try {
            all.append(' ').append(forge.length(false)).append(" to ").append(forge.length(true));
        } catch (IllegalStateException none) {
            return " none";
        }
        for (int name = 0; name < 26; name++) {
            try {
                int width = forge.width(name);
                all.append(' ').append((char) ('a' + name)).append(width);
            } catch (IndexOutOfBoundsException none) {
                continue;
            }
        }
        return all.toString();
    }
}
