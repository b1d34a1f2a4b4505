/** Promises 1 a new object, 2 type and 3 cut, and what the Terms say of the text. */
final class TextTest {
    private static final int[] FAR_OFF = {Integer.MIN_VALUE, -100, -8, 64, 256, 257, Integer.MAX_VALUE};
    private static final long LETTERS = 0x6161616161616161L;

    public static void main(String[] args) {
        newObject();
        objectsShareNothing();
        lowestByteFirst();
        nIsOneToEight();
        charactersAre32To126();
        bytesBehindAreNotLookedAt();
        atMost100Characters();
        roomAgainWhenCut();
        refusedTypeChangesNothing();
        cutKeepsTheFirst();
        cutToItsEdges();
        refusedCutChangesNothing();
        layoutStaysWhenTheTextChanges();
        Checks.end();
    }

    /** "An empty text, no layout, an empty packet, an empty record." */
    private static void newObject() {
        PacketForge forge = new PacketForge();
        Checks.fails("no layout to read by", IllegalStateException.class, forge::read);
        Checks.fails("no layout to write by", IllegalStateException.class, forge::write);
        Checks.fails("no least length", IllegalStateException.class, () -> forge.length(false));
        Checks.fails("no greatest length", IllegalStateException.class, () -> forge.length(true));
        Checks.fails("no layout with widths", IllegalStateException.class, () -> forge.width(0));
        Checks.same("empty packet", forge.size(), 0);
        Checks.same("empty record", forge.values(), 0);
        Checks.fails("no byte", IndexOutOfBoundsException.class, () -> forge.byteAt(0));
        Checks.fails("no bit", IndexOutOfBoundsException.class, () -> forge.flip(0));
        Checks.fails("no value", IndexOutOfBoundsException.class, () -> forge.value(0));
        Checks.fails("no name", IndexOutOfBoundsException.class, () -> forge.name(0));
        Checks.fails("nothing to set", IndexOutOfBoundsException.class, () -> forge.set(0, 0));
        Checks.no("no character to cut to", forge.cut(1));
        Checks.no("no byte to drop to", forge.drop(1));
        Checks.no("no value to keep", forge.keep(1));
        Checks.yes("cut to nothing", forge.cut(0));
        Checks.yes("drop to nothing", forge.drop(0));
        Checks.yes("keep nothing", forge.keep(0));
        Checks.same("empty text", forge.compile(), 1000);
        Checks.fails("still no layout", IllegalStateException.class, forge::read);
    }

    private static void objectsShareNothing() {
        PacketForge forge = new PacketForge();
        PacketForge other = Checks.forge("a:8");
        Checks.put(other, 1);
        Checks.same("other reads", other.read(), 0);
        Checks.fails("no layout", IllegalStateException.class, forge::read);
        Checks.same("no byte", forge.size(), 0);
        Checks.same("no value", forge.values(), 0);
        Checks.no("no text", forge.cut(1));
    }

    /** "n characters come behind the text, the lowest byte of w first." */
    private static void lowestByteFirst() {
        PacketForge forge = new PacketForge();
        Checks.yes("type b:16", forge.type('b' | ':' << 8 | '1' << 16 | '6' << 24, 4));
        Checks.same("compile b:16", forge.compile(), 0);
        Checks.same("width of b", forge.width(1), 16);
        Checks.yes("type ;_;_;_;_", forge.type(0x5f3b5f3b5f3b5f3bL, 8));
        Checks.same("compile b:16;_;_;_;_", forge.compile(), 0);
        Checks.yes("type <", forge.type('<', 1));
        Checks.same("it stands behind", forge.compile(), 1012);
    }

    /** "False when n is not 1 .. 8": that many characters come, and no other number of them. */
    private static void nIsOneToEight() {
        for (int n = -20; n <= 20; n++) {
            PacketForge forge = new PacketForge();
            boolean fits = n >= 1 && n <= 8;
            Checks.same("type of " + n, forge.type(LETTERS, n) ? 1 : 0, fits ? 1 : 0);
            Checks.same("so many came", Checks.textLength(forge, 20), fits ? n : 0);
        }
        for (int n : FAR_OFF) {
            Checks.no("type of " + n, new PacketForge().type(LETTERS, n));
        }
    }

    /** "at most 100 characters 32 .. 126": of every byte, in each place of w. */
    private static void charactersAre32To126() {
        for (int c = 0; c < 256; c++) {
            for (int at = 0; at < 8; at++) {
                long w = LETTERS & ~(255L << (8 * at)) | (long) c << (8 * at);
                int due = c >= 32 && c <= 126 ? 1 : 0;
                PacketForge forge = new PacketForge();
                Checks.same("type of " + c + " at " + at, forge.type(w, 8) ? 1 : 0, due);
                Checks.same("so many came", Checks.textLength(forge, 9), 8 * due);
                PacketForge last = new PacketForge();
                Checks.same("type up to " + c + " at " + at, last.type(w, at + 1) ? 1 : 0, due);
                Checks.same("so many came", Checks.textLength(last, 9), (at + 1) * due);
            }
        }
    }

    private static void bytesBehindAreNotLookedAt() {
        for (int n = 1; n < 8; n++) {
            for (long other : new long[] {0, 31, 127, 255}) {
                PacketForge forge = new PacketForge();
                long w = LETTERS & ~(255L << (8 * n)) | other << (8 * n);
                Checks.yes("byte " + n + " is " + other, forge.type(w, n));
                Checks.same("so many came", Checks.textLength(forge, 9), n);
            }
        }
    }

    /** "False when .. there would be more than 100": for every n, 100 are fine and 101 are not. */
    private static void atMost100Characters() {
        for (int n = 1; n <= 8; n++) {
            long w = LETTERS;
            int least = 99 - n;
            for (int before = least; before <= 100; before++) {
                PacketForge forge = Checks.typed("_".repeat(before));
                boolean fits = before + n <= 100;
                Checks.same(n + " behind " + before, forge.type(w, n) ? 1 : 0, fits ? 1 : 0);
                Checks.same("so many there are", Checks.textLength(forge, 101), fits ? before + n : before);
            }
        }
    }

    private static void roomAgainWhenCut() {
        PacketForge forge = Checks.typed("_;".repeat(49) + "_;");
        Checks.same("an item is missing behind the last ;", forge.compile(), 1100);
        Checks.no("no room", forge.type('_', 1));
        Checks.yes("cut", forge.cut(99));
        Checks.same("fifty pads", forge.compile(), 0);
        Checks.no("no room for two", forge.type(LETTERS, 2));
        Checks.yes("room for one", forge.type('!', 1));
        Checks.same("it is there", forge.compile(), 1099);
    }

    private static void refusedTypeChangesNothing() {
        for (String text : new String[] {"", "a:8", "a:8;" + "_;".repeat(47) + "_"}) {
            for (int n : new int[] {-1, 0, 9, Integer.MIN_VALUE, Integer.MAX_VALUE}) {
                Twins.stayWhenFalse("type of " + n, () -> Checks.rich(text), f -> f.type(LETTERS, n));
            }
            for (long c : new long[] {0, 31, 127, 255}) {
                long last = LETTERS >>> 8 | c << 56;
                Twins.stayWhenFalse("type of " + c, () -> Checks.rich(text), f -> f.type(c, 1));
                Twins.stayWhenFalse("type with " + c, () -> Checks.rich(text), f -> f.type(last, 8));
            }
        }
        String full = "a:8;" + "_;".repeat(48);
        Twins.stayWhenFalse("one more", () -> Checks.rich(full), f -> f.type('_', 1));
        Twins.stayWhenFalse("eight more", () -> Checks.rich(full), f -> f.type(LETTERS, 8));
    }

    /** "The text keeps its first n characters." */
    private static void cutKeepsTheFirst() {
        PacketForge forge = Checks.forge("a:1;b:2");
        Checks.yes("cut to a:1", forge.cut(3));
        Checks.same("compile a:1", forge.compile(), 0);
        Checks.same("width of a", forge.width(0), 1);
        Checks.fails("b is gone", IndexOutOfBoundsException.class, () -> forge.width(1));
        Checks.type(forge, "6");
        Checks.same("compile a:16", forge.compile(), 0);
        Checks.same("what comes stands behind what was kept", forge.width(0), 16);
    }

    /** "False when n is negative, or it has not so many": 0 and all that it has are fine. */
    private static void cutToItsEdges() {
        for (int length : new int[] {0, 1, 8, 99, 100}) {
            for (int n : new int[] {-1, 0, 1, length - 1, length, length + 1, 100, 101}) {
                PacketForge forge = Checks.typed("_".repeat(length));
                boolean fits = n >= 0 && n <= length;
                Checks.same("cut " + length + " to " + n, forge.cut(n) ? 1 : 0, fits ? 1 : 0);
                Checks.same("so many are left", Checks.textLength(forge, 101), fits ? n : length);
            }
        }
    }

    private static void refusedCutChangesNothing() {
        for (String text : new String[] {"", "a:8", "a:8;" + "_;".repeat(48)}) {
            int behind = text.length() + 1;
            for (int n : new int[] {-1, behind, Integer.MIN_VALUE, Integer.MAX_VALUE}) {
                Twins.stayWhenFalse("cut to " + n, () -> Checks.rich(text), f -> f.cut(n));
            }
        }
    }

    private static void layoutStaysWhenTheTextChanges() {
        PacketForge forge = Checks.forge("a:1;b:2");
        Checks.yes("cut", forge.cut(0));
        Checks.same("the layout stays", forge.width(1), 2);
        Checks.type(forge, "a:3");
        Checks.same("until the text is compiled", forge.width(0), 1);
        Checks.same("compile", forge.compile(), 0);
        Checks.same("then it is another one", forge.width(0), 3);
    }
}
