/** Promise 4, compile: what is a layout, and every fault with its place. */
final class CompileTest {
    public static void main(String[] args) {
        layouts();
        notALayout();
        numbersAndWidths();
        namesTwice();
        namesNotKnown();
        tooDeep();
        restNotLast();
        noOwnField();
        theFirstFaultCounts();
        layoutStays();
        Checks.end();
    }

    private static void due(String text, int answer) {
        PacketForge forge = new PacketForge();
        Checks.type(forge, text);
        Checks.same("compile " + text, forge.compile(), answer);
        Checks.same("compile again " + text, forge.compile(), answer);
    }

    private static void layouts() {
        String[] texts = {
            "_", "#x", "#s", "a:1", "z:24", "a:8<", "a:16<", "a:24<", "=0:1", "=1:1", "=255:8", "=999:10",
            "a:8;a*(b:1)", "a:8;a?(_)", "a:8;a?0(_)", "a:8;a?999(_)", ".(a:1)", "_;.(a:1)",
            "a:1;a?(b:1;a?(c:1;b?(a*(d:1))))", "a:8;a*(a?(_);b:1;b*(c:1))", "a:1;a?(b:1);c:1",
            "a:1;b:1;c:1;d:1;e:1;f:1;g:1;h:1;i:1;j:1;k:1;l:1;m:1;n:1;o:1;p:1;q:1;r:1;s:1;t:1;u:1;v:1;w:1;x:1;y:1"
        };
        for (String text : texts) {
            due(text, 0);
        }
    }

    private static void notALayout() {
        due("", 1000);
        due(" ", 1000);
        due("A:1", 1000);
        due("a: 1", 1002);
        due("a", 1001);
        due("a;", 1001);
        due("a(", 1001);
        due("a:1 ", 1003);
        due("a:1)", 1003);
        due("a:1_", 1003);
        due("a:1;", 1004);
        due(";a:1", 1000);
        due("a:1;;b:1", 1004);
        due("__", 1001);
        due("#", 1001);
        due("#y", 1001);
        due("#X", 1001);
        due("#xs", 1002);
        due("=", 1001);
        due("=1", 1002);
        due("=1;", 1002);
        due("=a:1", 1001);
        due("=1:", 1003);
        due("a:7<", 1003);
        due("a:9<", 1003);
        due("a:1<", 1003);
        due("a:8<<", 1004);
        due("=1:8<", 1004);
        due(".", 1001);
        due(".a", 1001);
        due(".(", 1002);
        due(".()", 1002);
        due(".(a:1", 1005);
        due(".(a:1;", 1006);
        due(".(a:1;)", 1006);
        due(".(a:1))", 1006);
        due(".(a:1)x", 1006);
        due("a:1;a*", 1006);
        due("a:1;a*b", 1006);
        due("a:1;a*5(_)", 1006);
        due("a:1;a?", 1006);
        due("a:1;a?x", 1006);
        due("a:1;a?5", 1007);
        due("a:1;a?5x", 1007);
        due("a:1;a?()", 1007);
        due("a:1;a?(_", 1008);
        due("a:1;a?(_]", 1008);
        due("a:1;a?(_)(", 1009);
        due("a:1;a?(_))", 1009);
        due("(a:1)", 1000);
        due("5", 1000);
    }

    private static void numbersAndWidths() {
        due("a:", 1002);
        due("a:x", 1002);
        due("a:0", 1002);
        due("a:01", 1002);
        due("a:00", 1002);
        due("a:25", 1002);
        due("a:100", 1002);
        due("a:1000", 1002);
        due("a:99999999999999999999", 1002);
        due("a:4294967297", 1002);
        due("a:-1", 1002);
        due("=01:8", 1001);
        due("=00:8", 1001);
        due("=1000:24", 1001);
        due("=1000", 1001);
        due("=4294967296:8", 1001);
        due("=0:0", 1003);
        due("=0:25", 1003);
        due("=0:08", 1003);
        due("=2:1", 1003);
        due("=1:1", 0);
        due("=256:8", 1005);
        due("=255:8", 0);
        due("=512:9x", 1005);
        due("=511:9", 0);
        due("=999:9", 1005);
        due("=999:24", 0);
        due("a:1;a?1000(_)", 1006);
        due("a:1;a?00(_)", 1006);
        due("a:1;a?01(_)", 1006);
        due("a:1;a?0(_)", 0);
    }

    private static void namesTwice() {
        due("a:1;a:1", 2004);
        due("a:1;a:", 2004);
        due("a:1;a:99", 2004);
        due("a:1;a", 1005);
        due("a:1;a!", 1005);
        due("a:1;a?(a:1)", 2007);
        due("b:1;b?(a:1);a:1", 2012);
        due("b:1;b?(a:1);b?(a:1)", 2015);
        due("a:1;b:1;c:1;b:1", 2012);
    }

    private static void namesNotKnown() {
        due("a*(b:1)", 3000);
        due("a*", 3000);
        due("a?", 3000);
        due("a?x", 3000);
        due("a?5(_)", 3000);
        due("a:9;a*(b:1)", 3004);
        due("a:9;a?(b:1)", 3004);
        due("a:9;a?5(b:1)", 3004);
        due("a:16<;a?(b:1)", 3006);
        due("a:8<;a?(b:1)", 0);
        due("a:8;b?(a:1)", 3004);
        PacketForge forge = Checks.forge("a:8");
        Checks.yes("cut", forge.cut(0));
        Checks.type(forge, "a?(_)");
        Checks.same("a name of the layout before is not known", forge.compile(), 3000);
        due("b:8;b?(c:1);c?(d:1)", 3012);
        due("b:8;b?(c:1;c?(d:1))", 0);
        due("b:8;b?(c:1);b?(c?(_))", 3015);
        due("a?(_);a:1", 3000);
        due("a:8;a*(b?(_);b:1)", 3007);
        due(".(a*(b:1);a:1)", 3002);
    }

    private static void tooDeep() {
        String six = "a:1;a?(a?(a?(a?(a?(a?(";
        due(six + "_))))))", 0);
        due(six + "a?(_)))))))", 4024);
        due(six + "a?(", 4024);
        due(six + "a?7(", 4025);
        due(six + "a*(", 4024);
        due(six + ".(", 4023);
        due(six + "b?(", 3022);
        due(six + "a?x", 1024);
        due(six + "(", 1022);
        due(six + "_);a?(_))))))", 0);
        due("a:1;" + "a?(_);".repeat(7) + "_", 0);
    }

    private static void restNotLast() {
        due(".(a:1);", 5006);
        due(".(a:1);b:1", 5006);
        due("=1:3;.(a:1);_", 5011);
        due("a:1;a?(.(b:1))", 5013);
        due("a:1;a?(.(b:1);_)", 5013);
        due("a:1;a?(.(b:1)", 1013);
        due("a:1;a?(.(b:1)x", 1013);
        due(".(.(a:1))", 5008);
        due("a:1;a*(b:1;.(c:1))", 5017);
        due("a:1;a*(.(c:1))", 5013);
    }

    private static void noOwnField() {
        due("a:1;a*(_)", 6008);
        due("a:1;a*(=1:1)", 6011);
        due("a:1;a*(a?(b:1))", 6014);
        due("a:1;a*(a?(b:1);c:1)", 0);
        due(".(_)", 6003);
        due(".(_);", 6003);
        due(".(#x;_)", 6006);
        due("a:1;.(a?(b:1))", 6013);
        due("a:1;a?(_)", 0);
        due("a:1;a?1(#x)", 0);
        due("a:1;a*(_;", 1009);
        due("a:1;a*(_", 1008);
    }

    private static void theFirstFaultCounts() {
        due("b:1;b:1;c*(", 2004);
        due("a:1;c?(a:1", 3004);
        due("a:1;a*(_);a:0", 6008);
        due("a:0;a:0", 1002);
        due(".(a:1);b*(", 5006);
        due("a:1;a:1<", 2004);
    }

    private static void layoutStays() {
        PacketForge forge = Checks.forge("a:8;b:8");
        Checks.put(forge, 1, 2);
        Checks.yes("cut", forge.cut(3));
        Checks.type(forge, ";c:9;c*(");
        Checks.same("a fault", forge.compile(), 3008);
        Checks.same("width of b", forge.width(1), 8);
        Checks.fails("no c", IndexOutOfBoundsException.class, () -> forge.width(2));
        Checks.same("least length", forge.length(false), 16);
        Checks.same("read", forge.read(), 0);
        Checks.recordIs("the layout that was", forge, 1, 2);
        Checks.namesAre("the layout that was", forge, "ab");
        Checks.yes("cut", forge.cut(3));
        Checks.same("the same text, now a layout", forge.compile(), 0);
        Checks.same("read", forge.read(), 7008);
    }
}
