/** Promise 4, compile: the faults 2 to 6 with their places, and which of several comes first. */
final class FaultTest {
    private static final String[] KINDS = {"*(", "?(", "?0(", "?7("};

    public static void main(String[] args) {
        nameTwice();
        nameNotKnown();
        nameNotKnownAnyMore();
        nameWithTooWideField();
        whenTheCharacterBehindIsSeen();
        tooDeep();
        tooDeepForEachKind();
        restNotLast();
        noOwnField();
        theFirstFaultCounts();
        faultsChangeNothing();
        noLayoutStaysNone();
        Checks.end();
    }

    private static void due(String text, int answer) {
        PacketForge forge = Checks.typed(text);
        Checks.same("compile " + text, forge.compile(), answer);
        Checks.same("compile again " + text, forge.compile(), answer);
    }

    /** "2 a field has a name that another field before has: at the name", in whatever list that is. */
    private static void nameTwice() {
        for (char name = 'a'; name <= 'z'; name++) {
            due(name + ":1;" + name + ":1", 2004);
        }
        due("a:1;b:1;c:1;b:1", 2012);
        due("a:1;a?(a:1)", 2007);
        due("a:1;a?(b:1;b?(a:1))", 2014);
        due("b:1;b?(a:1);a:1", 2012);
        due("b:1;b?(a:1);b?(a:1)", 2015);
        due("b:1;b?(b?(a:1));a:1", 2016);
        due("a:1;.(a:1)", 2006);
        due("a:8;a*(b:1;b:1)", 2011);
        due("a:16<;a:1", 2006);
        due("a:1;b:1;a?(_);b?(_);c:1", 0);
    }

    /** "3 a repeated, an option or a case has a name that is not known": no field before it has it. */
    private static void nameNotKnown() {
        for (String kind : KINDS) {
            due("a" + kind + "b:1)", 3000);
            due("a" + kind + "b:1);a:1", 3000);
            due("b:1;a" + kind + "c:1)", 3004);
            due("a:8;a" + kind + "b:1)", 0);
            due("_;a:8;#x;a" + kind + "b:1)", 0);
            due("a:8;a?(b:1;a" + kind + "c:1))", 0);
            due("a:8;a?(a?(a?(a?(a?(a" + kind + "b:1))))))", 0);
            due("a:8;a?(b" + kind + "c:1);b:1)", 3007);
            due("a:8;.(b:1;a" + kind + "c:1))", 0);
            due("a:8;.(b:1;b" + kind + "c:1))", 0);
            due(".(a:1;b" + kind + "c:1);b:1)", 3006);
        }
        due("a:8;a*(a?(_);b:1)", 0);
        due("a:8;a*(b?(_);b:1)", 3007);
    }

    /** A list's own fields are not known behind it, and those of the layout before never are. */
    private static void nameNotKnownAnyMore() {
        for (String kind : KINDS) {
            due("b:8;b?(c:1);c" + kind + "d:1)", 3012);
            due("b:8;b?5(c:1);c" + kind + "d:1)", 3013);
            due("b:8;b*(c:1);c" + kind + "d:1)", 3012);
            due("b:8;b?(c:1);b?(c" + kind + "d:1))", 3015);
            due("b:8;b?(b?(c:1);c" + kind + "d:1))", 3015);
            due("b:8;b?(c:1;b?(c" + kind + "d:1)))", 0);
            due("b:8;b?(c:1;b?(_);c" + kind + "d:1))", 0);
            due("b:8;b?(c:1);b" + kind + "d:1)", 0);
        }
        PacketForge forge = Checks.forge("a:8");
        Checks.yes("cut", forge.cut(0));
        Checks.type(forge, "a?(_)");
        Checks.same("a name of the layout before is not known", forge.compile(), 3000);
    }

    /** "or whose field has a width above 8" */
    private static void nameWithTooWideField() {
        for (int width = 1; width <= 24; width++) {
            for (String kind : KINDS) {
                String field = "a:" + width + ";";
                due(field + "a" + kind + "b:1)", width <= 8 ? 0 : 3000 + field.length());
                String inside = field + "c:1;c?(";
                due(inside + "a" + kind + "b:1))", width <= 8 ? 0 : 3000 + inside.length());
            }
        }
        due("a:8<;a?(b:1)", 0);
        due("a:16<;a?(b:1)", 3006);
        due("a:24<;a*(b:1)", 3006);
    }

    /** "what is at a name, when the character behind it is seen" */
    private static void whenTheCharacterBehindIsSeen() {
        due("a:1;a", 1005);
        due("a:1;a!", 1005);
        due("a:1;a:", 2004);
        due("a:1;a:0", 2004);
        due("a:1;a:99", 2004);
        due("b", 1001);
        due("b!", 1001);
        due("b*", 3000);
        due("b*!", 3000);
        due("b?", 3000);
        due("b?!", 3000);
        due("b?1000(", 3000);
        due("a:9;a", 1005);
        due("a:9;a?", 3004);
        due("a:9;a*", 3004);
    }

    /** "4 ( is inside of six others that are open: at it" */
    private static void tooDeep() {
        for (int open = 1; open <= 12; open++) {
            String text = "a:1;" + "a?(".repeat(open) + "_" + ")".repeat(open);
            due(text, open <= 6 ? 0 : 4000 + "a:1;a?(a?(a?(a?(a?(a?(a?".length());
        }
        String six = "a:1;a?(a?(a?(a?(a?(a?(";
        due(six + "_);a?(_))))))", 0);
        due(six + "_);a?(_);a?(a?(_)))))))", 4000 + six.length() + "_);a?(_);a?(a?".length());
        due("a:1;" + "a?(_);".repeat(7) + "_", 0);
        due("a:1;" + "a?(a?(_));".repeat(7) + "_", 0);
    }

    private static void tooDeepForEachKind() {
        String five = "a:1;a?(a?(a?(a?(a?(";
        String six = five + "a?(";
        for (String kind : KINDS) {
            due(five + "a" + kind + "b:1))))))", 0);
            due(six + "a" + kind + "b:1)))))))", 4000 + six.length() + kind.length());
            due(six + "a" + kind, 4000 + six.length() + kind.length());
            due(six + "b" + kind, 3000 + six.length());
        }
        due(six + ".(", 4000 + six.length() + 1);
        due(five + ".(b:1)", 1000 + five.length() + 6);
        due(six + "a?", 1000 + six.length() + 2);
        due(six + "a?x", 1000 + six.length() + 2);
        due(".(a:1;a?(a?(a?(a?(a?(_))))))", 0);
        due(".(a:1;a?(a?(a?(a?(a?(a?(_)))))))", 4000 + ".(a:1;a?(a?(a?(a?(a?(a?".length());
        due("a:1;a*(b:1;a*(c:1;a*(d:1;a*(e:1;a*(f:1;a*(g:1))))))", 0);
        due("a:1;a*(b:1;a*(c:1;a*(d:1;a*(e:1;a*(f:1;a*(g:1;a*(h:1)))))))",
            4000 + "a:1;a*(b:1;a*(c:1;a*(d:1;a*(e:1;a*(f:1;a*(g:1;a*".length());
    }

    /** "5 a rest is not the last item of the whole text: where ; or ) follows its list" */
    private static void restNotLast() {
        due(".(a:1)", 0);
        due("_;.(a:1)", 0);
        due(".(a:1);", 5006);
        due(".(a:1);b:1", 5006);
        due(".(a:1);.(b:1)", 5006);
        due("=1:3;.(a:1);_", 5011);
        due(".(b:1;.(a:1))", 5012);
        due(".(.(a:1);b:1)", 5008);
        for (String kind : KINDS) {
            String before = "a:1;a" + kind + "b:1;.(c:1)";
            due(before, 1000 + before.length());
            due(before + "x", 1000 + before.length());
            due(before + ")", 5000 + before.length());
            due(before + ");_", 5000 + before.length());
            due(before + ";_)", 5000 + before.length());
        }
        due(".(a:1)_", 1006);
        due(".(a:1", 1005);
    }

    /** "6 the list of a repeated or a rest has no field of its own (..): at its )" */
    private static void noOwnField() {
        String[] lists = {"_", "=1:1", "#x", "#s", "a?(b:1)", "a?0(b:1)", "a*(b:1)", "_;_;_", "a?(a*(b:1);c:1)"};
        for (String list : lists) {
            String repeated = "a:1;a*(" + list;
            String rest = "a:1;.(" + list;
            due(repeated + ")", 6000 + repeated.length());
            due(rest + ")", 6000 + rest.length());
            due(rest + ");", 6000 + rest.length());
            due(repeated + ";z:1)", 0);
            due(rest + ";z:1)", 0);
            due("a:1;a*(z:1;" + list + ")", 0);
            due("a:1;.(z:1;" + list + ")", 0);
            due("a:1;a?(" + list + ")", 0);
            due("a:1;a?1(" + list + ")", 0);
            due(repeated, 1000 + repeated.length());
            due(repeated + ";", 1001 + repeated.length());
        }
        due("a:1;a*(b:8<)", 0);
        due("a:1;a*(b:1;a*(_))", 6015);
        due("a:1;a*(a*(b:1);_)", 6016);
        due("a:1;a?(a*(_))", 6011);
    }

    private static void theFirstFaultCounts() {
        due("b:1;b:1;c*(", 2004);
        due("a:1;c?(a:1", 3004);
        due("a:1;a*(_);a:0", 6008);
        due("a:0;a:0", 1002);
        due("a:25;a*(", 1002);
        due(".(a:1);b*(", 5006);
        due("a:1;a:1<", 2004);
        due("a:1;a*(_;a:1)", 2009);
        due("a:1;a*(_;b*(", 3009);
        due("a:1;.(_;.(b:1))", 5014);
        due("a:1;a?(.(_);", 6010);
        due("a:1;a?(a?(a?(a?(a?(a?(a?(a:1", 4024);
        due("a:1;a?(a?(a?(a?(a?(a?(a:1", 2022);
    }

    /** "1000 times the fault and the place (the layout stays what it was)" */
    private static void faultsChangeNothing() {
        String[] texts = {"", "a:8;k:0", "a:8;a:8", "a:8;k*(b:1)", "a:9;a?(b:1)", "a:1;a?(a?(a?(a?(a?(a?(a?(_",
            "a:8;.(b:8);c:8", "a:8;a*(_)", "k:1;l:1;m:1;n:1;o:1;p:1;q:1;", "=1:1;_;a:8)"};
        int[] answers = {1000, 1006, 2004, 3004, 3004, 4024, 5010, 6008, 1028, 1010};
        for (int t = 0; t < texts.length; t++) {
            String text = texts[t];
            int answer = answers[t];
            Twins.stay("compile " + text, () -> Checks.rich(text),
                forge -> Checks.same("compile " + text, forge.compile(), answer));
            readsAsBefore(text, answer);
        }
    }

    private static void readsAsBefore(String text, int answer) {
        PacketForge forge = Checks.rich(text);
        Checks.same("compile " + text, forge.compile(), answer);
        Checks.same("least length", forge.length(false), 16);
        Checks.same("greatest length", forge.length(true), 16);
        Checks.same("width of k", forge.width(10), 8);
        Checks.fails("no a", IndexOutOfBoundsException.class, () -> forge.width(0));
        Checks.same("read", forge.read(), 7016);
        Checks.yes("drop", forge.drop(2));
        Checks.same("read", forge.read(), 0);
        Checks.recordIs("the layout that was", forge, 200, 7, 1, 1);
        Checks.namesAre("the layout that was", forge, "klmn");
        Checks.same("write", forge.write(), 0);
        Checks.packetIs("the layout that was", forge, 200, 0x73);
    }

    private static void noLayoutStaysNone() {
        for (String text : new String[] {"", "a:8;", "a:8;a:8", "a:8;b?(_)", ".(a:8);", "a:8;a*(_)"}) {
            PacketForge forge = Checks.typed(text);
            Checks.yes("a fault of " + text, forge.compile() >= 1000);
            Checks.fails("length", IllegalStateException.class, () -> forge.length(false));
            Checks.fails("width", IllegalStateException.class, () -> forge.width(0));
            Checks.fails("read", IllegalStateException.class, forge::read);
            Checks.fails("write", IllegalStateException.class, forge::write);
        }
    }
}
