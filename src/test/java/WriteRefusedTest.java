import java.util.Arrays;

/** Promise 13, write: each refusal 5 and 11 to 15 with its bit, which comes first, and no change. */
final class WriteRefusedTest {
    /** With 20 as the first value, and 20 more, that are 488 bits. */
    private static final String TO_488 = "a:8;a*(b:24)";

    public static void main(String[] args) {
        checksInsideOfBytes();
        valuesTooLarge();
        noValue();
        valuesLeft();
        fieldsThatPutTooMuch();
        otherPartsThatPutTooMuch();
        notWholeBytes();
        twelveElevenFourteen();
        fiveBeforeFourteen();
        thirteenAndFifteen();
        theFirstItemCounts();
        insideOfLists();
        packetStays();
        writtenAgainBehindARefusal();
        Checks.end();
    }

    private static void due(String text, int answer, int... values) {
        PacketForge forge = Checks.forge(text);
        Checks.add(forge, values);
        Checks.same("write by " + text, forge.write(), answer);
        Checks.same("write again by " + text, forge.write(), answer);
        Checks.recordIs("writing leaves the record", forge, values);
        if (answer != 0) {
            Checks.same("the packet stays empty", forge.size(), 0);
        }
    }

    /** The first one, and so many more that are 1. */
    private static int[] ones(int first, int more) {
        int[] values = new int[1 + more];
        Arrays.fill(values, 1);
        values[0] = first;
        return values;
    }

    /** "(5 as above)": a check must begin at a multiple of 8. */
    private static void checksInsideOfBytes() {
        for (int width = 1; width <= 24; width++) {
            due("a:" + width + ";#x", width % 8 == 0 ? 0 : 5000 + width, 1);
            due("a:" + width + ";#s", width % 8 == 0 ? 0 : 5000 + width, 1);
            due("a:" + width + ";_;#s", 0, 1);
        }
        due("a:4;#s;b:4", 5004, 1, 2);
    }

    /** "which must be less than 2 to the power of its width (else 11)" */
    private static void valuesTooLarge() {
        for (int width = 1; width <= 24; width++) {
            int power = 1 << width;
            for (int v : new int[] {power - 1, power, power + 1, 2 * power, Integer.MAX_VALUE}) {
                due("a:" + width + ";_", v < power ? 0 : 11000, v);
                due("a:8;=0:3;b:" + width + ";_", v < power ? 0 : 11011, 1, v);
            }
        }
        for (int width = 8; width <= 24; width += 8) {
            due("a:" + width + "<", 0, (1 << width) - 1);
            due("a:" + width + "<", 11000, 1 << width);
            due("a:" + width + "<", 11000, Integer.MAX_VALUE);
        }
    }

    /** "and there must be one (else 12)" */
    private static void noValue() {
        due("a:8", 12000);
        due("a:8;b:8", 12008, 1);
        due("a:8;b:8", 0, 1, 2);
        due("=0:3;a:8", 12003);
        due("a:8;a*(b:8)", 12016, 2, 7);
        due("a:8;a?(b:8)", 12008, 2);
        due("a:8;a?(b:8)", 0, 0);
        due("a:8;a?2(b:8)", 12008, 2);
        due("a:8;a?2(b:8)", 0, 1);
        due(".(a:8;b:8)", 12024, 1, 2, 3);
        due(".(a:8;b:8)", 0, 1, 2, 3, 4);
        due("_", 0);
        due("#x", 0);
        due("a:8;a*(b:1);_", 0, ones(59, 59));
        due("a:8;a*(b:1);_", 12067, ones(60, 59));
        due("a:8;a*(b:1);c:1", 12067, ones(59, 59));
        due(".(a:1;b:1;c:1;d:1;e:1;f:1;g:1)", 12060, ones(1, 59));
    }

    /** "Behind the list no values may be left (else 13)", with "how many bits there are". */
    private static void valuesLeft() {
        due("a:8", 0, 1);
        due("a:8", 13008, 1, 2);
        due("a:8", 13008, ones(1, 59));
        due("_", 13000, 1);
        due("#x", 13008, 1);
        due("=0:16", 13016, Integer.MAX_VALUE);
        due("a:8;a*(b:8)", 13016, 1, 7, 8);
        due("a:8;a*(b:8)", 13008, 0, 7);
        due("a:8;a?(b:8)", 13008, 0, 7);
        due("a:8;a?2(b:8);a?3(c:8)", 13008, 1, 7);
        due("a:8;.(b:8)", 0, 1, 2, 3);
    }

    /** "What puts more than 64 bytes is refused 14": as many as fit are fine, one more is not. */
    private static void fieldsThatPutTooMuch() {
        for (int width = 9; width <= 24; width++) {
            int fit = 512 / width;
            int bits = fit * width;
            due(".(a:" + width + ")", bits % 8 == 0 ? 0 : 15000 + bits, ones(1, fit - 1));
            due(".(a:" + width + ")", 14000 + bits, ones(1, fit));
            due(".(a:" + width + ")", 14000 + bits, ones(1, 59));
        }
        due(".(a:16<)", 0, ones(1, 31));
        due(".(a:16<)", 14512, ones(1, 32));
    }

    private static void otherPartsThatPutTooMuch() {
        due(TO_488 + ";=0:24", 0, ones(20, 20));
        due(TO_488 + ";=0:23;=0:1", 0, ones(20, 20));
        due(TO_488 + ";=0:23;=0:2", 14511, ones(20, 20));
        due(TO_488 + ";=0:1;=0:24", 14489, ones(20, 20));
        due(TO_488 + ";=0:24;=0:1", 14512, ones(20, 20));
        due(TO_488 + ";=0:16;#x", 0, ones(20, 20));
        due(TO_488 + ";=0:16;#s", 0, ones(20, 20));
        due(TO_488 + ";=0:24;#x", 14512, ones(20, 20));
        due(TO_488 + ";=0:24;#s", 14512, ones(20, 20));
        due(TO_488 + ";=0:24;_", 0, ones(20, 20));
        due(TO_488 + ";c:24", 0, ones(20, 21));
        due(TO_488 + ";c:24;d:1", 14512, ones(20, 22));
        due(TO_488 + ";=0:23;d:2", 14511, ones(20, 21));
        for (int width = 17; width <= 24; width++) {
            due(TO_488 + ";=0:" + width + ";_", 0, ones(20, 20));
        }
    }

    /** "and the bits must be whole bytes (else 15)", with "how many bits there are". */
    private static void notWholeBytes() {
        for (int width = 1; width <= 24; width++) {
            due("a:" + width, width % 8 == 0 ? 0 : 15000 + width, 1);
            due("=1:" + width, width % 8 == 0 ? 0 : 15000 + width);
            due("a:" + width + ";_", 0, 1);
        }
        due("a:8;.(b:1)", 15011, 1, 1, 1, 1);
        due("a:8;.(b:1)", 0, ones(1, 8));
        due("a:8;a?(b:1)", 15009, 1, 1);
        due("a:8;a?(b:1)", 0, 0);
    }

    /** "of 12, 11, 14 the first one" */
    private static void twelveElevenFourteen() {
        due(".(b:16;c:24)", 0, ones(1, 23));
        due("a:8;a*(b:24)", 12512, ones(22, 21));
        due("a:8;a*(b:24)", 14512, ones(22, 22));
        int[] tooLarge = ones(22, 22);
        tooLarge[22] = 1 << 24;
        due("a:8;a*(b:24)", 11512, tooLarge);
        tooLarge[22] = (1 << 24) - 1;
        due("a:8;a*(b:24)", 14512, tooLarge);
        due(TO_488 + ";=0:20;c:8", 12508, ones(20, 20));
        int[] last = ones(20, 21);
        last[21] = 256;
        due(TO_488 + ";=0:20;c:8", 11508, last);
        last[21] = 255;
        due(TO_488 + ";=0:20;c:8", 14508, last);
    }

    private static void fiveBeforeFourteen() {
        for (int width = 17; width <= 23; width++) {
            due(TO_488 + ";=0:" + width + ";#x", 5488 + width, ones(20, 20));
            due(TO_488 + ";=0:" + width + ";#s", 5488 + width, ones(20, 20));
        }
    }

    /** Both are looked at behind the list, in the order in which they are told. */
    private static void thirteenAndFifteen() {
        due("a:7", 15007, 1);
        due("a:7", 13007, 1, 2);
        due("a:7;_", 13008, 1, 2);
    }

    private static void theFirstItemCounts() {
        due("a:8;b:8;#x;c:8", 11000, 256, 256);
        due("a:4;#x;b:8", 5004, 1, 256);
        due("a:4;#x;b:8", 5004, 1);
        due("a:4;b:8;#x", 12004, 1);
        due("a:4;b:8;c:1", 11004, 1, 256, 2, 7);
    }

    /** The bit is that of the item inside of the list, not that of the list. */
    private static void insideOfLists() {
        due("n:8;n*(a:4;b:4)", 11020, 2, 1, 1, 1, 16);
        due("n:8;n?(a:4;b:4)", 12012, 2, 1);
        due("n:8;n?2(a:4;#x)", 5012, 2, 1);
        due(".(a:4;_;b:8)", 12024, 1, 2, 3);
        due("n:8;n*(a:4;a?(b:8;b?(c:8)))", 12020, 1, 1, 1);
    }

    /** A forge whose record was read by another layout, so that its values have names. */
    private static PacketForge named(String text) {
        PacketForge forge = Checks.rich(text);
        Checks.same("compile " + text, forge.compile(), 0);
        return forge;
    }

    /** "or 1000 times what it is refused with, and the bit (the packet stays)" */
    private static void packetStays() {
        stays("a:8;b:4;#x", 5012);
        stays("a:7", 11000);
        stays("a:8;b:3;c:1;d:1;e:8", 11013);
        stays("a:8;b:3;c:1;d:1;e:9;f:1", 12022);
        stays("a:8;b:8;c:8;d:8", 13032);
        stays("a:8;b:3;c:1;d:1;e:9", 15022);
        Twins.stay("write of too much", WriteRefusedTest::tooMuch,
            forge -> Checks.same("write of too much", forge.write(), 14504));
    }

    private static void stays(String text, int answer) {
        Twins.stay("write by " + text, () -> named(text),
            forge -> Checks.same("write by " + text, forge.write(), answer));
        PacketForge forge = named(text);
        Checks.same("write by " + text, forge.write(), answer);
        Checks.packetIs("the packet stays", forge, 200, 0x73, 9);
        Checks.recordIs("the record stays", forge, 200, 7, 1, 1, 300);
        Checks.namesAre("the names stay", forge, "klmn-");
    }

    private static PacketForge tooMuch() {
        PacketForge forge = Checks.forge(".(a:4)");
        Checks.yes("put", forge.put(0x1122334455667788L, 8));
        Checks.yes("put", forge.put(0x1122334455667788L, 8));
        Checks.same("read", forge.read(), 0);
        Checks.yes("cut", forge.cut(0));
        Checks.type(forge, ".(c:24)");
        Checks.same("compile", forge.compile(), 0);
        return forge;
    }

    /** Nothing of what was written before the refusal is left for the next time. */
    private static void writtenAgainBehindARefusal() {
        PacketForge forge = Checks.forge("a:8;a*(b:8);#x");
        Checks.add(forge, 2, 255, 256);
        Checks.same("refused", forge.write(), 11016);
        forge.set(1, 0);
        forge.set(2, 1);
        Checks.same("write", forge.write(), 0);
        Checks.packetIs("no bit of the refused one", forge, 2, 0, 1, 3);
        forge.set(0, 3);
        Checks.same("refused", forge.write(), 12024);
        Checks.packetIs("the packet stays", forge, 2, 0, 1, 3);
        forge.set(0, 2);
        Checks.same("write", forge.write(), 0);
        Checks.namesAre("written", forge, "abb");
    }
}
