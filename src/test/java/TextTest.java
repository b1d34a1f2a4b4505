/** Promises 1 a new object, 2 type and 3 cut. */
final class TextTest {
    public static void main(String[] args) {
        newObject();
        typeTakesTheLowestByteFirst();
        typeRefuses();
        typeFillsTheText();
        cutKeepsTheFirst();
        cutRefuses();
        Checks.end();
    }

    private static void newObject() {
        PacketForge forge = new PacketForge();
        Checks.same("empty text", forge.compile(), 1000);
        Checks.same("empty packet", forge.size(), 0);
        Checks.same("empty record", forge.values(), 0);
        Checks.fails("no layout to read by", IllegalStateException.class, forge::read);
        Checks.fails("no layout to write by", IllegalStateException.class, forge::write);
        Checks.fails("no layout to measure", IllegalStateException.class, () -> forge.length(false));
        Checks.fails("no layout with widths", IllegalStateException.class, () -> forge.width(0));
        Checks.no("no character to cut to", forge.cut(1));
        Checks.no("no byte to drop to", forge.drop(1));
        Checks.no("no value to keep", forge.keep(1));
        objectsShareNothing(forge);
    }

    private static void objectsShareNothing(PacketForge forge) {
        PacketForge other = Checks.forge("a:8");
        Checks.put(other, 1);
        Checks.same("other reads", other.read(), 0);
        Checks.fails("still no layout", IllegalStateException.class, forge::read);
        Checks.same("still no byte", forge.size(), 0);
        Checks.same("still no value", forge.values(), 0);
    }

    private static void typeTakesTheLowestByteFirst() {
        PacketForge forge = new PacketForge();
        long w = 'b' | ':' << 8 | '1' << 16 | '6' << 24;
        Checks.yes("type b:16", forge.type(w, 4));
        Checks.same("compile b:16", forge.compile(), 0);
        Checks.same("width of b", forge.width(1), 16);
        Checks.yes("bytes above n are not looked at", forge.type(';' | 0xff00L | 1L << 63, 1));
        Checks.same("one character more", forge.compile(), 1005);
        Checks.yes("eight", forge.type(0x6161616161616161L, 8));
        Checks.same("nine more", forge.compile(), 1006);
        Checks.yes("all nine are there", forge.cut(13));
        Checks.no("and no tenth", forge.cut(14));
    }

    private static void typeRefuses() {
        PacketForge forge = Checks.forge("a:8");
        long letters = 0x6161616161616161L;
        for (int n : new int[] {0, 9, -1, 256, Integer.MIN_VALUE, Integer.MAX_VALUE}) {
            Checks.no("type with n " + n, forge.type(letters, n));
        }
        for (int c : new int[] {0, 10, 31, 127, 128, 255}) {
            Checks.no("type of " + c, forge.type(c, 1));
            Checks.no("type with " + c + " at last", forge.type(letters >>> 8 | (long) c << 56, 8));
        }
        Checks.no("nothing came in", forge.cut(4));
        Checks.same("the text stays", forge.compile(), 0);
        Checks.yes("type of 32", forge.type(32, 1));
        Checks.same("a space is no part of a layout", forge.compile(), 1003);
        Checks.yes("type of 126", forge.type(126, 1));
        Checks.yes("both came in", forge.cut(5));
    }

    private static void typeFillsTheText() {
        PacketForge forge = new PacketForge();
        Checks.type(forge, "_;".repeat(48));
        Checks.no("five would be 101", forge.type(0x5f3b5f3b5fL, 5));
        Checks.yes("three make 99", forge.type(0x5f3b5f, 3));
        Checks.no("two would be 101", forge.type(0x5f3b, 2));
        Checks.same("fifty pads", forge.compile(), 0);
        Checks.yes("one makes 100", forge.type(';', 1));
        Checks.no("one would be 101", forge.type('_', 1));
        Checks.same("an item is missing behind the last ;", forge.compile(), 1100);
    }

    private static void cutKeepsTheFirst() {
        PacketForge forge = Checks.forge("a:1;b:2");
        Checks.yes("cut to all", forge.cut(7));
        Checks.same("all is there", forge.compile(), 0);
        Checks.same("width of b", forge.width(1), 2);
        Checks.yes("cut to a:1", forge.cut(3));
        Checks.same("the layout stays until it is compiled", forge.width(1), 2);
        Checks.same("compile a:1", forge.compile(), 0);
        Checks.fails("b is gone", IndexOutOfBoundsException.class, () -> forge.width(1));
        Checks.type(forge, "6");
        Checks.same("compile a:16", forge.compile(), 0);
        Checks.same("what comes stands behind what was kept", forge.width(0), 16);
        Checks.yes("cut to nothing", forge.cut(0));
        Checks.same("empty", forge.compile(), 1000);
    }

    private static void cutRefuses() {
        PacketForge forge = Checks.forge("a:1;b:2");
        Checks.no("cut to 8", forge.cut(8));
        Checks.no("cut to -1", forge.cut(-1));
        Checks.no("cut to the least int", forge.cut(Integer.MIN_VALUE));
        Checks.no("cut to the greatest int", forge.cut(Integer.MAX_VALUE));
        Checks.same("the text stays", forge.compile(), 0);
        Checks.same("width of b", forge.width(1), 2);
    }
}
