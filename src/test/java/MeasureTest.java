/** Promises 5 length and 6 width. */
final class MeasureTest {
    /** 5 and 31 times 16 bits are 501. */
    private static final String TO_501 = "a:5;a*(b:16);";

    public static void main(String[] args) {
        everyWidth();
        plainItems();
        pads();
        optionsAndCases();
        repeated();
        repeatedAsOftenAsTheFieldCanSay();
        rests();
        upTo512AndAbove();
        aboveIsAboveAtOnce();
        lengthsWithoutALayout();
        lengthsOfTheLayoutThatIs();
        widths();
        widthsWithoutSuchAField();
        refusedCallsChangeNothing();
        askingChangesNothing();
        Checks.end();
    }

    private static void due(String text, int least, int greatest) {
        PacketForge forge = Checks.forge(text);
        Checks.same("least length of " + text, forge.length(false), least);
        Checks.same("greatest length of " + text, forge.length(true), greatest);
        Checks.same("least length again of " + text, forge.length(false), least);
    }

    /** "a field, constant or check add their widths (8)" */
    private static void everyWidth() {
        for (int width = 1; width <= 24; width++) {
            due("a:" + width, width, width);
            due("=0:" + width, width, width);
            due("a:" + width + ";#x", width + 8, width + 8);
            Checks.same("width of a", Checks.forge("a:" + width).width(0), width);
        }
    }

    private static void plainItems() {
        due("a:24<", 24, 24);
        due("#x", 8, 8);
        due("#s", 8, 8);
        due("#s;#x", 16, 16);
        due("a:3;#x;=1:2;b:16<", 29, 29);
    }

    /** "a pad goes to the next multiple of 8 (or stays)" */
    private static void pads() {
        due("_", 0, 0);
        for (int width = 1; width <= 24; width++) {
            int whole = width <= 8 ? 8 : width <= 16 ? 16 : 24;
            due("a:" + width + ";_", whole, whole);
            due("=0:" + width + ";_;_;b:1", whole + 1, whole + 1);
        }
        due("a:1;a?(b:8);_", 8, 16);
        due("a:1;a?(b:7);_", 8, 8);
        due("a:1;a?(b:7);=0:7;_", 8, 16);
    }

    /** "an option or case leaves the least one, and the greatest one becomes that behind its list" */
    private static void optionsAndCases() {
        due("a:1;a?(b:7)", 1, 8);
        due("a:1;a?0(b:7)", 1, 8);
        due("a:1;a?5(b:7)", 1, 8);
        due("a:1;a?999(b:7)", 1, 8);
        due("a:1;a?(_)", 1, 8);
        due("a:8;a?(_)", 8, 8);
        due("a:1;a?0(b:7);a?1(c:7);d:1", 2, 16);
        due("a:1;a?(b:1;b?(c:6))", 1, 8);
        due("a:1;a?(a?(a?(a?(a?(a?(b:24<))))))", 1, 25);
        due("a:1;a?(b:1;_;c:1);d:1", 2, 10);
        due("_;".repeat(45) + "a:8;_;_;_", 8, 8);
    }

    private static void repeated() {
        due("a:1;a*(b:7)", 1, 8);
        due("a:4;=5:4;b:16<;a*(c:3);_;#x", 32, 80);
        due("a:2;a*(b:2;_)", 2, 24);
        due("a:2;a*(_;b:2)", 2, 26);
        due("a:2;a*(b:2;b*(c:3))", 2, 2 + 3 * (2 + 3 * 3));
        due("a:1;a*(b:3;b?7(c:24))", 1, 28);
        due("a:2;b:3;a*(c:1;b*(d:1))", 5, 5 + 3 * (1 + 7));
        due("a:2;a*(b:1;#x)", 2, 2 + 3 * 9);
    }

    /** "goes through its list as often as its field can say for the greatest one" */
    private static void repeatedAsOftenAsTheFieldCanSay() {
        for (int width = 1; width <= 8; width++) {
            due("a:" + width + ";a*(b:1)", width, width + (1 << width) - 1);
        }
        due("a:8<;a*(b:1)", 8, 263);
    }

    /** "a rest leaves the least one, and the greatest one is 513" */
    private static void rests() {
        due(".(a:1)", 0, 513);
        due("a:8;.(b:1)", 8, 513);
        due("a:3;_;.(b:24;_)", 8, 513);
        due("a:3;a?(c:5);.(b:1;b?(d:1))", 3, 513);
    }

    /** "What is above 512 is 513": 511, 512 and 513 by each kind of item. */
    private static void upTo512AndAbove() {
        for (int more = 9; more <= 14; more++) {
            int due = Math.min(501 + more, 513);
            due(TO_501 + "=0:" + more, 5 + more, due);
            due(TO_501 + "c:" + more, 5 + more, due);
            due(TO_501 + "=0:" + (more - 8) + ";#x", 5 + more, due);
            due(TO_501 + "=0:" + (more - 8) + ";#s", 5 + more, due);
            due(TO_501 + "a?(c:" + more + ")", 5, due);
            due(TO_501 + "a?9(c:" + more + ")", 5, due);
            due(TO_501 + "c:1;c*(d:" + (more - 1) + ")", 6, due);
        }
        for (int more = 3; more <= 11; more++) {
            due(TO_501 + "=0:" + more + ";_", more == 3 ? 8 : 16, more == 3 ? 504 : 512);
        }
        due(TO_501 + "=0:12;_", 24, 513);
        due("a:6;=0:1;a*(b:8)", 7, 511);
        due("a:6;=0:2;a*(b:8)", 8, 512);
        due("a:6;=0:3;a*(b:8)", 9, 513);
        due("a:24;b:24;c:24;d:24;e:24;f:24;g:24;h:24;i:24;j:24;k:24;l:24;m:24;n:24;o:24;p:24;q:24;r:24;s:24;t:24",
            480, 480);
    }

    /** "as soon as it is": nothing behind it makes it another number, be it ever so much. */
    private static void aboveIsAboveAtOnce() {
        due(TO_501 + "=0:12;_;=0:1", 25, 513);
        due(TO_501 + "=0:11;_;=0:1", 17, 513);
        due(TO_501 + "=0:24;_;#x;c:24", 64, 513);
        due(TO_501 + "=0:12;a?(_);a*(c:1;_)", 17, 513);
        due(TO_501 + "=0:12;.(c:1)", 17, 513);
        due("a:8;a*(b:24;_)", 8, 513);
        due("a:8;a*(b:8;b*(c:8;c*(d:8;d*(e:8;e*(f:8;f*(g:1))))))", 8, 513);
    }

    /** "IllegalStateException when there is none." */
    private static void lengthsWithoutALayout() {
        PacketForge none = Checks.typed("a:8");
        Checks.fails("no least length", IllegalStateException.class, () -> none.length(false));
        Checks.fails("no greatest length", IllegalStateException.class, () -> none.length(true));
        Checks.same("compile", none.compile(), 0);
        Checks.same("least length", none.length(false), 8);
        Checks.same("greatest length", none.length(true), 8);
    }

    /** Nothing of a longer layout before is left in a shorter one. */
    private static void lengthsOfTheLayoutThatIs() {
        PacketForge forge = Checks.forge("a:8;b:8;a*(c:8);_;#x");
        Checks.yes("cut", forge.cut(3));
        Checks.same("compile", forge.compile(), 0);
        Checks.same("least length", forge.length(false), 8);
        Checks.same("greatest length", forge.length(true), 8);
        Checks.fails("no b any more", IndexOutOfBoundsException.class, () -> forge.width(1));
        Checks.fails("no c any more", IndexOutOfBoundsException.class, () -> forge.width(2));
    }

    /** "The width of the field with a name (0 .. 25 for a .. z) in the layout." */
    private static void widths() {
        PacketForge forge = Checks.forge("a:1;a?(c:16<;a?(d:3));z:24;b:8<;.(y:9)");
        int[] due = new int[26];
        due[0] = 1;
        due[1] = 8;
        due[2] = 16;
        due[3] = 3;
        due[24] = 9;
        due[25] = 24;
        for (int k = 0; k < 26; k++) {
            int name = k;
            if (due[k] > 0) {
                Checks.same("width of " + k, forge.width(k), due[k]);
            } else {
                Checks.fails("width of " + k, IndexOutOfBoundsException.class, () -> forge.width(name));
            }
        }
    }

    /** "IndexOutOfBoundsException when it has no such field", behind "when there is no layout". */
    private static void widthsWithoutSuchAField() {
        PacketForge forge = Checks.forge("a:1;z:24");
        PacketForge none = Checks.typed("a:1;z:24");
        for (int name : new int[] {-1, 1, 24, 26, 27, 31, 32, 'a', 'z', Integer.MIN_VALUE, Integer.MAX_VALUE}) {
            Checks.fails("width of " + name, IndexOutOfBoundsException.class, () -> forge.width(name));
            Checks.fails("no layout comes first", IllegalStateException.class, () -> none.width(name));
        }
        Checks.fails("no layout", IllegalStateException.class, () -> none.width(0));
        Checks.fails("no layout", IllegalStateException.class, () -> none.width(25));
        PacketForge plain = Checks.forge("=0:8;_;#x");
        for (int k = 0; k < 26; k++) {
            int name = k;
            Checks.fails("no field", IndexOutOfBoundsException.class, () -> plain.width(name));
        }
    }

    private static void refusedCallsChangeNothing() {
        for (int name : new int[] {-1, 0, 26, Integer.MIN_VALUE, Integer.MAX_VALUE}) {
            Twins.stayWhenThrown("width of " + name, () -> Checks.rich("a:8"),
                IndexOutOfBoundsException.class, forge -> forge.width(name));
            Twins.stayWhenThrown("width without a layout", () -> Checks.typed("a:8"),
                IllegalStateException.class, forge -> forge.width(name));
        }
        for (boolean greatest : new boolean[] {false, true}) {
            Twins.stayWhenThrown("length without a layout", () -> Checks.typed("a:8"),
                IllegalStateException.class, forge -> forge.length(greatest));
        }
    }

    private static void askingChangesNothing() {
        Twins.stay("length", () -> Checks.rich("a:8"), forge -> Checks.same("length", forge.length(true), 16));
        Twins.stay("width", () -> Checks.rich("a:8"), forge -> Checks.same("width", forge.width(11), 4));
    }
}
