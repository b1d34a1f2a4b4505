/** What the tests share: counting wrong answers, and feeding texts and bytes to a forge. */
final class Checks {
    private static final int MOST_LINES = 40;
    private static int wrong = 0;

    private Checks() {
    }

    static void same(String what, long got, long due) {
        if (got != due) {
            tell(what + " answered " + got + ", due is " + due);
        }
    }

    static void yes(String what, boolean got) {
        same(what, got ? 1 : 0, 1);
    }

    static void no(String what, boolean got) {
        same(what, got ? 1 : 0, 0);
    }

    /** Exactly that class is due, not one below it. */
    static void fails(String what, Class<? extends RuntimeException> due, Runnable call) {
        try {
            call.run();
        } catch (RuntimeException thrown) {
            if (thrown.getClass() != due) {
                tell(what + " threw " + thrown + ", due is " + due.getName());
            }
            return;
        }
        tell(what + " threw nothing, due is " + due.getName());
    }

    static void tell(String line) {
        wrong++;
        if (wrong <= MOST_LINES) {
            System.out.println(line);
        }
    }

    static void end() {
        System.out.println(wrong == 0 ? "all answers are as due" : wrong + " answers are not as due");
        if (wrong != 0) {
            System.exit(1);
        }
    }

    static void type(PacketForge forge, String text) {
        for (int from = 0; from < text.length(); from += 8) {
            int n = Math.min(8, text.length() - from);
            long w = 0;
            for (int k = 0; k < n; k++) {
                w |= (long) text.charAt(from + k) << (8 * k);
            }
            yes("typing " + text, forge.type(w, n));
        }
    }

    static void put(PacketForge forge, int... bytes) {
        for (int b : bytes) {
            yes("putting " + b, forge.put(b, 1));
        }
    }

    static void add(PacketForge forge, int... values) {
        for (int v : values) {
            forge.add(v);
        }
    }

    static PacketForge forge(String text) {
        PacketForge forge = new PacketForge();
        type(forge, text);
        same("compile " + text, forge.compile(), 0);
        return forge;
    }

    static void packetIs(String what, PacketForge forge, int... due) {
        same(what + ": size", forge.size(), due.length);
        for (int i = 0; i < Math.min(due.length, forge.size()); i++) {
            same(what + ": byte " + i, forge.byteAt(i), due[i]);
        }
    }

    static void recordIs(String what, PacketForge forge, int... due) {
        same(what + ": values", forge.values(), due.length);
        for (int i = 0; i < Math.min(due.length, forge.values()); i++) {
            same(what + ": value " + i, forge.value(i), due[i]);
        }
    }

    /** The names as letters, - for NONE. */
    static void namesAre(String what, PacketForge forge, String due) {
        StringBuilder names = new StringBuilder();
        for (int i = 0; i < forge.values(); i++) {
            int name = forge.name(i);
            names.append(name == PacketForge.NONE ? '-' : (char) ('a' + name));
        }
        if (!names.toString().equals(due)) {
            tell(what + ": names are " + names + ", due is " + due);
        }
    }
}
