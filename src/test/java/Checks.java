/** What the tests share: counting wrong answers, and feeding texts and bytes to a forge. */
final class Checks {
    private static final int MOST_LINES = 40;
    private static int wrong = 0;

    private Checks() {
    }

    static void same(String what, long got, long due) {
        if (got != due) {
            tell(what + " answered " + got + ", due is " + due);
        }
    }

    static void yes(String what, boolean got) {
        same(what, got ? 1 : 0, 1);
    }

    static void no(String what, boolean got) {
        same(what, got ? 1 : 0, 0);
    }

    /** Exactly that class is due, not one below it. */
    static void fails(String what, Class<? extends RuntimeException> due, Runnable call) {
        try {
            call.run();
        } catch (RuntimeException thrown) {
            if (thrown.getClass() != due) {
                tell(what + " threw " + thrown + ", due is " + due.getName());
            }
            return;
        }
        tell(what + " threw nothing, due is " + due.getName());
    }

    static void tell(String line) {
        wrong++;
        if (wrong <= MOST_LINES) {
            System.out.println(line);
        }
    }

    static void end() {
        System.out.println(wrong == 0 ? "all answers are as due" : wrong + " answers are not as due");
        if (wrong != 0) {
            System.exit(1);
        }
    }

    static void type(PacketForge forge, String text) {
        for (int from = 0; from < text.length(); from += 8) {
            int n = Math.min(8, text.length() - from);
            long w = 0;
            for (int k = 0; k < n; k++) {
                w |= (long) text.charAt(from + k) << (8 * k);
            }
            yes("typing " + text, forge.type(w, n));
        }
    }

    static void put(PacketForge forge, int... bytes) {
        for (int b : bytes) {
            yes("putting " + b, forge.put(b, 1));
        }
    }

    static void add(PacketForge forge, int... values) {
        for (int v : values) {
            forge.add(v);
        }
    }

    static PacketForge typed(String text) {
        PacketForge forge = new PacketForge();
        type(forge, text);
        return forge;
    }

    /** A forge of which every part has something in it: its layout is another than its text. */
    static PacketForge rich(String text) {
        PacketForge forge = forge("k:8;l:4;m:3;n:1");
        put(forge, 200, 0x73);
        same("read", forge.read(), 0);
        add(forge, 300);
        put(forge, 9);
        yes("cut", forge.cut(0));
        type(forge, text);
        return forge;
    }

    /** A text that is cut to the length that it has stays what it is. */
    static int textLength(PacketForge forge, int most) {
        int n = most;
        while (n > 0 && !forge.cut(n)) {
            n--;
        }
        return n;
    }

    static PacketForge forge(String text) {
        PacketForge forge = typed(text);
        same("compile " + text, forge.compile(), 0);
        return forge;
    }

    static String bits(int number, int width) {
        StringBuilder bits = new StringBuilder();
        for (int k = width - 1; k >= 0; k--) {
            bits.append((number >> k & 1) == 1 ? '1' : '0');
        }
        return bits.toString();
    }

    /** The bytes of a text of 0 and 1, with zeros behind it up to a byte. */
    static int[] bytes(String bits) {
        int[] bytes = new int[(bits.length() + 7) / 8];
        for (int i = 0; i < bits.length(); i++) {
            if (bits.charAt(i) == '1') {
                bytes[i / 8] |= 128 >> i % 8;
            }
        }
        return bytes;
    }

    /** The bits with one of them the other way. */
    static String turned(String bits, int at) {
        char other = bits.charAt(at) == '1' ? '0' : '1';
        return bits.substring(0, at) + other + bits.substring(at + 1);
    }

    static void packetIs(String what, PacketForge forge, int... due) {
        int size = forge.size();
        same(what + ": size", size, due.length);
        for (int i = 0; i < Math.min(due.length, size); i++) {
            same(what + ": byte " + i, forge.byteAt(i), due[i]);
        }
    }

    static void recordIs(String what, PacketForge forge, int... due) {
        int values = forge.values();
        same(what + ": values", values, due.length);
        for (int i = 0; i < Math.min(due.length, values); i++) {
            same(what + ": value " + i, forge.value(i), due[i]);
        }
    }

    /** The names as letters, - for NONE. */
    static void namesAre(String what, PacketForge forge, String due) {
        StringBuilder names = new StringBuilder();
        int values = forge.values();
        for (int i = 0; i < values; i++) {
            int name = forge.name(i);
            names.append(name == PacketForge.NONE ? '-' : (char) ('a' + name));
        }
        if (!names.toString().equals(due)) {
            tell(what + ": names are " + names + ", due is " + due);
        }
    }
}
