/** Promise 4, compile: which texts are layouts, and fault 1 with its place. */
final class CompileTest {
    public static void main(String[] args) {
        items();
        oneItemAtLeast();
        nothingElse();
        atItsEndTooEarly();
        numbersOfConstants();
        numbersOfCases();
        widths();
        zerosBeforeDigits();
        names();
        lowestByteFirst();
        constantsAndTheirWidths();
        partsOfItems();
        theTextIsTheLayout();
        manyItems();
        Checks.end();
    }

    private static void due(String text, int answer) {
        PacketForge forge = Checks.typed(text);
        Checks.same("compile " + text, forge.compile(), answer);
        Checks.same("compile again " + text, forge.compile(), answer);
    }

    private static void items() {
        String[] texts = {
            "_", "#x", "#s", "a:1", "z:24", "a:8<", "a:16<", "a:24<", "=0:1", "=1:1", "=255:8", "=999:10",
            "a:8;a*(b:1)", "a:8;a?(_)", "a:8;a?0(_)", "a:8;a?999(_)", ".(a:1)", "_;.(a:1)",
            "a:1;a?(b:1;a?(c:1;b?(a*(d:1))))", "a:8;a*(a?(_);b:1;b*(c:1))", "a:1;a?(b:1);c:1",
            "a:1;b:1;c:1;d:1;e:1;f:1;g:1;h:1;i:1;j:1;k:1;l:1;m:1;n:1;o:1;p:1;q:1;r:1;s:1;t:1;u:1;v:1;w:1;x:1;y:1"
        };
        for (String text : texts) {
            due(text, 0);
        }
    }

    /** "a LIST (of ITEMS with ; between, one at least)", the whole text and each list in it. */
    private static void oneItemAtLeast() {
        due("", 1000);
        due(";", 1000);
        due("_", 0);
        due("_;", 1002);
        due("_;_", 0);
        due("_;;_", 1002);
        due(";_", 1000);
        due("__", 1001);
        due(".()", 1002);
        due("a:1;a*()", 1007);
        due("a:1;a?()", 1007);
        due("a:1;a?3()", 1008);
        due("a:1;a?(;_)", 1007);
        due("a:1;a?(_;)", 1009);
        due("a:1;a?(_;;_)", 1009);
        due("a:1;a?(_;_)", 0);
        due("a:1;a?(_)_", 1009);
    }

    /** "and nothing else (no spaces)": a strange character is a fault wherever it stands. */
    private static void nothingElse() {
        String text = "a:8;a?5(=3:2;_);#x;a*(b:8<);.(c:1)";
        due(text, 0);
        for (char c = 32; c <= 126; c++) {
            boolean strange = "0123456789;:*?().=_#<abcdefghijklmnopqrstuvwxyz".indexOf(c) < 0;
            for (int at = 0; strange && at <= text.length(); at++) {
                due(text.substring(0, at) + c + text.substring(at), 1000 + at);
            }
        }
    }

    /** "or is at its end too early, that is fault 1 at that place" */
    private static void atItsEndTooEarly() {
        String text = "a:8;a*(b:8<;b?3(_;#x);a?(_));=5:3;#s;.(c:1)";
        for (int n = 0; n <= text.length(); n++) {
            String first = text.substring(0, n);
            boolean whole = first.equals("a:8") || first.endsWith("a?(_))") || first.endsWith("=5:3")
                || first.endsWith("#s") || n == text.length();
            due(first, whole ? 0 : 1000 + n);
        }
    }

    /** "NUMBERS are 0 .. 999", "of a number .. that is not as said: where it begins" */
    private static void numbersOfConstants() {
        for (int number = 0; number <= 1025; number++) {
            due("=" + number + ":24", number <= 999 ? 0 : 1001);
        }
        due("=1000", 1001);
        due("=9990:24", 1001);
        due("=4294967296:24", 1001);
        due("=4294967297:24", 1001);
        due("=18446744073709551617:24", 1001);
        due("=-1:8", 1001);
        due("=+1:8", 1001);
        due("=:8", 1001);
        due("=x:8", 1001);
        due("_;=1000:24", 1003);
        due("=1x:8", 1002);
        due("=1.5:8", 1002);
    }

    private static void numbersOfCases() {
        for (int number = 0; number <= 1025; number++) {
            due("a:8;a?" + number + "(_)", number <= 999 ? 0 : 1006);
        }
        due("a:8;a?1000", 1006);
        due("a:8;a?4294967296(_)", 1006);
        due("a:8;a?-1(_)", 1006);
        due("a:8;a?1", 1007);
        due("a:8;a?1x", 1007);
        due("a:8;a?1;", 1007);
        due("a:1;a?999(_)", 0);
    }

    /** "a width (a number, 1 .. 24)", "of a .. width that is not as said: where it begins" */
    private static void widths() {
        for (int width = 0; width <= 1025; width++) {
            boolean fits = width >= 1 && width <= 24;
            due("a:" + width, fits ? 0 : 1002);
            due("=0:" + width, fits ? 0 : 1003);
        }
        due("a:", 1002);
        due("a:x", 1002);
        due("a:-1", 1002);
        due("a:<", 1002);
        due("a:;", 1002);
        due("a:99999999999999999999", 1002);
        due("a:4294967297", 1002);
        due("a:18446744073709551617", 1002);
        due("=0:", 1003);
        due("=0:x", 1003);
        due("=0:4294967297", 1003);
        due("_;a:25;_", 1004);
        due("_;=0:25;_", 1005);
    }

    /** "digits, without a 0 before another digit" */
    private static void zerosBeforeDigits() {
        String[] before = {"=", "a:8;a?", "=0:", "a:"};
        String[] behind = {":24", "(_)", "", ""};
        for (int k = 0; k < before.length; k++) {
            for (String number : new String[] {"00", "01", "08", "09", "010", "001", "0000000000001"}) {
                due(before[k] + number + behind[k], 1000 + before[k].length());
            }
        }
        due("=0:1", 0);
        due("a:8;a?0(_)", 0);
        due("=10:10", 0);
        due("=100:20", 0);
        due("a:8;a?100(_)", 0);
    }

    /** "NAMES are a .. z." */
    private static void names() {
        for (char c = 32; c <= 126; c++) {
            boolean name = c >= 'a' && c <= 'z';
            due(c + ":8", name ? 0 : c == '.' || c == '=' || c == '#' || c == '_' ? 1001 : 1000);
            if (name) {
                due(c + ":8;" + c + "?(_);" + c + "?0(_);" + c + "*(" + (c == 'a' ? 'z' : 'a') + ":1)", 0);
            }
        }
        due("a", 1001);
        due("ab:1", 1001);
        due("a;", 1001);
        due("a(", 1001);
        due("a)", 1001);
        due("a<", 1001);
        due("a=1:1", 1001);
    }

    /** "and perhaps < (if the width is 8, 16 or 24)" */
    private static void lowestByteFirst() {
        for (int width = 1; width <= 24; width++) {
            String text = "a:" + width + "<";
            due(text, width % 8 == 0 ? 0 : 1000 + text.length() - 1);
        }
        due("a:8<<", 1004);
        due("a:8<8", 1004);
        due("a:<8", 1002);
        due("=1:8<", 1004);
        due("#x<", 1002);
    }

    /** "the number is less than 2 to the power of the width", else fault 1 "where the width begins" */
    private static void constantsAndTheirWidths() {
        for (int width = 1; width <= 24; width++) {
            int power = 1 << width;
            if (power - 1 <= 999) {
                due("=" + (power - 1) + ":" + width, 0);
            }
            if (power <= 999) {
                String number = "=" + power + ":";
                due(number + width, 1000 + number.length());
                due(number + width + "!", 1000 + number.length());
                due(number + (width + 1), 0);
            }
        }
        due("=999:9", 1005);
        due("=999:10", 0);
        due("=0:1", 0);
        due("=12:2", 1004);
        due("=12:24", 0);
        due("_;=2:1", 1005);
    }

    private static void partsOfItems() {
        due("#", 1001);
        due("#y", 1001);
        due("#X", 1001);
        due("#S", 1001);
        due("#;", 1001);
        due("#xs", 1002);
        due("##x", 1001);
        due("=", 1001);
        due("=1", 1002);
        due("=1;", 1002);
        due(".", 1001);
        due(".a", 1001);
        due("..(a:1)", 1001);
        due(".(a:1", 1005);
        due(".(a:1]", 1005);
        due(".(a:1)x", 1006);
        due(".(a:1).(b:1)", 1006);
        due("a:1;a*", 1006);
        due("a:1;a*b", 1006);
        due("a:1;a*5(_)", 1006);
        due("a:1;a**(b:1)", 1006);
        due("a:1;a?", 1006);
        due("a:1;a?x", 1006);
        due("a:1;a??(_)", 1006);
        due("a:1;a?(_", 1008);
        due("a:1;a?(_]", 1008);
        due("a:1;a?(_)(", 1009);
        due("a:1;a?(_))", 1009);
        due("a:1)", 1003);
        due("(a:1)", 1000);
        due("5", 1000);
        due(":8", 1000);
        due("*(_)", 1000);
        due("?(_)", 1000);
        due("<", 1000);
    }

    /** "The text is the layout from now on: 0" */
    private static void theTextIsTheLayout() {
        PacketForge forge = Checks.forge("a:8;b:8");
        Checks.put(forge, 1, 2);
        Checks.yes("cut", forge.cut(3));
        Checks.same("until it is compiled, the text before counts", forge.read(), 0);
        Checks.same("compile", forge.compile(), 0);
        Checks.same("least length", forge.length(false), 8);
        Checks.fails("no b any more", IndexOutOfBoundsException.class, () -> forge.width(1));
        Checks.same("read", forge.read(), 7008);
        Checks.recordIs("compiling leaves the record", forge, 1, 2);
        Checks.packetIs("compiling leaves the packet", forge, 1, 2);
        Checks.type(forge, ";c:7;c?(d:1)");
        Checks.same("compile", forge.compile(), 0);
        Checks.same("read", forge.read(), 0);
        Checks.recordIs("by the new layout", forge, 1, 1, 0);
        Checks.namesAre("by the new layout", forge, "acd");
    }

    /** 100 characters hold fifty items at most. */
    private static void manyItems() {
        due("_;".repeat(49) + "_", 0);
        due("_;".repeat(49) + "#x", 0);
        due("_;".repeat(49) + "__", 1099);
        due("_;".repeat(50), 1100);
        due("a:24;b:24;c:24;d:24;e:24;f:24;g:24;h:24;i:24;j:24;k:24;l:24;m:24;n:24;o:24;p:24;q:24;r:24;s:24;t:24",
            0);
    }
}
