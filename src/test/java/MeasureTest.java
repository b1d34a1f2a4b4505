/** Promises 5 length and 6 width. */
final class MeasureTest {
    public static void main(String[] args) {
        plainItems();
        pads();
        optionsAndCases();
        repeated();
        rests();
        tooLong();
        widths();
        Checks.end();
    }

    private static void due(String text, int least, int greatest) {
        PacketForge forge = Checks.forge(text);
        Checks.same("least length of " + text, forge.length(false), least);
        Checks.same("greatest length of " + text, forge.length(true), greatest);
    }

    private static void plainItems() {
        due("a:1", 1, 1);
        due("a:24<", 24, 24);
        due("=0:5", 5, 5);
        due("#x", 8, 8);
        due("#s;#x", 16, 16);
        due("a:3;#x", 11, 11);
    }

    private static void pads() {
        due("_", 0, 0);
        due("a:1;_", 8, 8);
        due("a:8;_", 8, 8);
        due("a:9;_;_", 16, 16);
        due("a:1;a?(b:8);_", 8, 16);
        due("a:1;a?(b:7);_", 8, 8);
    }

    private static void optionsAndCases() {
        due("a:1;a?(b:7)", 1, 8);
        due("a:1;a?5(b:7)", 1, 8);
        due("a:1;a?(_)", 1, 8);
        due("a:1;a?(b:7);a?0(c:7);d:1", 2, 16);
        due("a:1;a?(b:1;b?(c:6))", 1, 8);
        due("a:1;a?(a?(a?(a?(a?(a?(b:24<))))))", 1, 25);
        due("_;".repeat(45) + "a:8;_;_;_", 8, 8);
    }

    private static void repeated() {
        due("a:1;a*(b:7)", 1, 8);
        due("a:2;a*(b:7)", 2, 23);
        due("a:4;=5:4;b:16<;a*(c:3);_;#x", 32, 80);
        due("a:2;a*(b:2;_)", 2, 24);
        due("a:2;a*(b:2;b*(c:3))", 2, 2 + 3 * (2 + 3 * 3));
        due("a:1;a*(b:3;b?7(c:24))", 1, 28);
        due("a:8;a*(b:1)", 8, 263);
    }

    private static void rests() {
        due(".(a:1)", 0, 513);
        due("a:8;.(b:1)", 8, 513);
    }

    private static void tooLong() {
        due("a:5;a*(b:16);=0:11", 16, 512);
        due("a:5;a*(b:16);=0:12", 17, 513);
        due("a:5;a*(b:16);=0:10;_", 16, 512);
        due("a:5;a*(b:16);=0:12;_;=0:1", 25, 513);
        due("a:5;a*(b:16);=0:12;_", 24, 513);
        due("a:8;a*(b:8;b*(c:8;c*(d:8;d*(e:8;e*(f:8;f*(g:1))))))", 8, 513);
        due("a:24;b:24;c:24;d:24;e:24;f:24;g:24;h:24;i:24;j:24;k:24;l:24;m:24;n:24;o:24;p:24;q:24;r:24;s:24;t:24",
            480, 480);
    }

    private static void widths() {
        PacketForge forge = Checks.forge("a:1;a?(c:16<);z:24;b:8<");
        Checks.same("a", forge.width(0), 1);
        Checks.same("c, inside of a list", forge.width(2), 16);
        Checks.same("z", forge.width(25), 24);
        Checks.same("b", forge.width(1), 8);
        for (int name : new int[] {3, 24, 26, -1, 'a', Integer.MIN_VALUE, Integer.MAX_VALUE}) {
            Checks.fails("width of " + name, IndexOutOfBoundsException.class, () -> forge.width(name));
        }
        PacketForge none = new PacketForge();
        Checks.fails("no layout comes first", IllegalStateException.class, () -> none.width(26));
        Checks.fails("no least length", IllegalStateException.class, () -> none.length(false));
        Checks.fails("no greatest length", IllegalStateException.class, () -> none.length(true));
    }
}
