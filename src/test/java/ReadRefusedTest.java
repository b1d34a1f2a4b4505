/** Promise 12, read: each refusal 1 to 7 with its bit, which of several comes first, and no change. */
final class ReadRefusedTest {
    public static void main(String[] args) {
        tooFewBits();
        exactlyEnoughBits();
        otherConstants();
        otherPads();
        otherChecks();
        checksInsideOfBytes();
        noRoomInTheRecord();
        bitsLeft();
        fiveBeforeOne();
        sixBeforeOne();
        oneBeforeWhatTheBitsAre();
        theFirstItemCounts();
        insideOfLists();
        recordStays();
        readAgainBehindARefusal();
        Checks.end();
    }

    private static void due(String text, int answer, int... bytes) {
        PacketForge forge = Checks.forge(text);
        Checks.put(forge, bytes);
        Checks.same("read by " + text, forge.read(), answer);
        Checks.same("read again by " + text, forge.read(), answer);
        Checks.packetIs("the packet stays", forge, bytes);
    }

    /** "What takes more bits than there are is refused 1" */
    private static void tooFewBits() {
        due("a:1", 1000);
        due("=0:1", 1000);
        due("#x", 1000);
        due("#s", 1000);
        due("a:24<", 1000, 1, 2);
        due("a:8;b:1", 1008, 1);
        due("a:8;=0:1", 1008, 1);
        due("a:8;#x", 1008, 5);
        due("a:8;#s", 1008, 5);
        due("a:8;a*(b:8)", 1016, 2, 7);
        due("a:8;a?(b:8)", 1008, 2);
        due("a:8;a?2(b:8)", 1008, 2);
        due(".(a:16)", 1016, 1, 2, 3);
        due(".(a:7)", 1007, 1);
    }

    /** All bits that there are can be taken, one more can't. */
    private static void exactlyEnoughBits() {
        for (int first = 1; first <= 7; first++) {
            for (int bytes = 1; bytes <= 3; bytes++) {
                int rest = 8 * bytes - first;
                String before = "a:" + first + ";";
                due(before + "b:" + rest, 0, new int[bytes]);
                due(before + "b:" + (rest + 1), 1000 + first, new int[bytes]);
                due(before + "=0:" + rest, 0, new int[bytes]);
                due(before + "=0:" + (rest + 1), 1000 + first, new int[bytes]);
            }
        }
        due("a:8<", 0, 1);
        due("a:16<", 1000, 1);
        due("a:24;#x", 0, 1, 2, 3, 0);
        due("a:24;#x", 1024, 1, 2, 3);
    }

    /** "A constant takes its width likewise, which must be its number (else REFUSED 2)." */
    private static void otherConstants() {
        for (int width = 1; width <= 24; width++) {
            int number = Math.min((1 << width) - 1, 682);
            String text = "a:3;=" + number + ":" + width + ";_";
            String bits = "101" + Checks.bits(number, width);
            due(text, 0, Checks.bytes(bits));
            for (int at = 3; at < bits.length(); at++) {
                due(text, 2003, Checks.bytes(Checks.turned(bits, at)));
            }
        }
        due("=0:24", 2000, 0, 0, 1);
        due("=19:8", 2000, 0x12);
        due("_;=0:1;=1:1;_", 2001, 0);
    }

    /** "A pad takes 0 to 7 bits .., which must be 0 (else 3)." */
    private static void otherPads() {
        for (int width = 1; width <= 7; width++) {
            String bits = "1".repeat(width) + "0".repeat(8 - width);
            due("a:" + width + ";_", 0, Checks.bytes(bits));
            due("_;a:" + width + ";_;b:8", 0, Checks.bytes(bits + "11111111"));
            for (int at = width; at < 8; at++) {
                due("a:" + width + ";_", 3000 + width, Checks.bytes(Checks.turned(bits, at)));
                due("b:8;a:" + width + ";_", 3008 + width, Checks.bytes("11111111" + Checks.turned(bits, at)));
            }
        }
    }

    /** "(else 4)": whatever bit of it, or of the bytes before it, is another one. */
    private static void otherChecks() {
        for (String check : new String[] {"#x", "#s"}) {
            String text = "a:8;b:8;" + check;
            String bits = Checks.bits(0xf0, 8) + Checks.bits(0x3c, 8) + Checks.bits(check.equals("#x") ? 0xcc : 0x2c, 8);
            due(text, 0, Checks.bytes(bits));
            for (int at = 0; at < 24; at++) {
                due(text, 4016, Checks.bytes(Checks.turned(bits, at)));
            }
            due(check, 4000, 1);
            due(check, 4000, 128);
        }
        due("a:8;#s", 4008, 0, 255);
        due("a:16;#s", 4016, 255, 1, 255);
        due("a:8;.(b:8;#s)", 4032, 1, 2, 3, 4, 11);
        due("a:8;#x;#x", 4016, 5, 5, 5);
    }

    /** "it must begin at a multiple of 8 (else 5)" */
    private static void checksInsideOfBytes() {
        for (int width = 1; width <= 24; width++) {
            for (String check : new String[] {"#x", "#s"}) {
                int[] bytes = new int[(width + 7) / 8 + 1];
                due("a:" + width + ";" + check, width % 8 == 0 ? 0 : 5000 + width, bytes);
            }
        }
    }

    /** "a field for which there is no room in the record 6": the 60th has room, the 61st has not. */
    private static void noRoomInTheRecord() {
        for (int n = 58; n <= 62; n++) {
            int[] bytes = Checks.bytes(Checks.bits(n, 8) + "1".repeat(n));
            due("a:8;a*(b:1);_", n <= 59 ? 0 : 6067, bytes);
        }
        due("a:8;a*(b:1);_", 6067, Checks.bytes(Checks.bits(255, 8) + "1".repeat(255)));
        due(".(a:4)", 0, new int[30]);
        due(".(a:4)", 6240, new int[31]);
        due(".(a:1)", 0, new int[7]);
        due(".(a:1)", 6060, new int[8]);
        due(".(a:8)", 0, new int[60]);
        due(".(a:8)", 6480, new int[61]);
        due(".(a:8)", 6480, new int[64]);
        due("a:8;a*(b:8);=0:8", 0, firstByte(59, 61));
        due("a:8;a*(b:8);#x", 0, withXor(firstByte(59, 61)));
        due("a:8;a*(b:8);c:1", 6480, firstByte(59, 60));
    }

    private static int[] firstByte(int first, int size) {
        int[] bytes = new int[size];
        bytes[0] = first;
        return bytes;
    }

    private static int[] withXor(int[] bytes) {
        bytes[bytes.length - 1] = bytes[0];
        return bytes;
    }

    /** "If bits are left behind the list, that is refused 7", with "the first one left". */
    private static void bitsLeft() {
        for (int width = 1; width <= 24; width++) {
            int bytes = (width + 7) / 8;
            due("a:" + width, width % 8 == 0 ? 0 : 7000 + width, new int[bytes]);
            due("=0:" + width + ";_", 0, new int[bytes]);
            due("=0:" + width + ";_", 7000 + 8 * bytes, new int[bytes + 1]);
        }
        due("_", 0);
        due("_", 7000, 0);
        due("#x", 7008, 0, 0);
        due("a:8", 7008, new int[64]);
        due("a:8;a*(b:8)", 7016, 1, 7, 8);
        due("a:8;a?(b:8)", 7016, 2, 5, 5);
        due("a:8;a?(b:8)", 7008, 0, 5);
        due("a:8;a?2(b:8);a?3(c:8)", 7008, 1, 5);
    }

    /** "of 5 and 1, 5 comes first" */
    private static void fiveBeforeOne() {
        for (int width = 1; width <= 7; width++) {
            due("a:" + width + ";#x", 5000 + width, 0);
            due("a:" + width + ";#s", 5000 + width, 0);
            due("a:" + width + ";#s", 5000 + width, 0, 0);
        }
        due("a:9;#x", 5009, 0, 0);
    }

    /** "of 1 and 6: 6" */
    private static void sixBeforeOne() {
        due("a:8;a*(b:8)", 6480, firstByte(60, 61));
        due("a:8;a*(b:8)", 6480, firstByte(60, 60));
        due("a:8;a*(b:8)", 1472, firstByte(60, 59));
        due("a:8;a*(b:8);c:24", 6480, firstByte(59, 60));
        due("a:8;a*(b:8);=0:24", 1480, firstByte(59, 60));
    }

    /** What has too few bits can't be looked at: of 1 and 2 or 4 it is 1. */
    private static void oneBeforeWhatTheBitsAre() {
        due("a:4;=9:6", 1004, 0x12);
        due("a:8;=999:10", 1008, 0, 0);
        due("=1:24", 1000, 255, 255);
    }

    private static void theFirstItemCounts() {
        due("=1:8;#x;a:8", 2000, 2, 9);
        due("a:1;_;#x;b:8", 3001, 0x81);
        due("a:8;#x;b:8", 4008, 1, 2);
        due("a:4;#x;b:24", 5004, 1);
        due("a:8;=1:8", 2008, 1, 2, 3);
        due("a:1;_", 3001, 0x81, 7);
        due("a:8;#x", 4008, 1, 2, 3);
    }

    /** The bit is that of the item inside of the list, not that of the list. */
    private static void insideOfLists() {
        due("n:8;n*(a:4;=3:4)", 2020, 2, 0x13, 0x14);
        due("n:8;n?(a:4;_)", 3012, 2, 0x13);
        due("n:8;n?2(a:8;#x)", 4016, 2, 3, 4);
        due("n:8;n?2(a:4;#x)", 5012, 2, 3, 4);
        due(".(a:4;_;=7:8)", 2024, 0x10, 7, 0x20, 8);
        due("n:8;n*(a:4;a?(b:8;b?(c:8)))", 1020, 1, 0x10, 0x10);
    }

    /** A forge with a record that was read by another layout, and a value that has no name. */
    private static PacketForge filled(String text, int... bytes) {
        PacketForge forge = Checks.rich(text);
        Checks.same("compile " + text, forge.compile(), 0);
        Checks.yes("drop", forge.drop(0));
        Checks.put(forge, bytes);
        return forge;
    }

    /** "or 1000 times what it is refused with, and the bit (the record stays)" */
    private static void recordStays() {
        stays("a:8;b:8;c:8", 1016, 1, 2);
        stays("a:8;=3:8", 2008, 1, 2);
        stays("a:8;b:1;_", 3009, 1, 0x82);
        stays("a:8;b:8;#x", 4016, 1, 2, 4);
        stays("a:8;b:1;#x", 5009, 1, 2, 4);
        stays(".(a:1)", 6060, 1, 2, 3, 4, 5, 6, 7, 8);
        stays("a:8;b:8", 7016, 1, 2, 3);
        stays("k:8;l:8", 7016, 1, 2, 3);
    }

    private static void stays(String text, int answer, int... bytes) {
        Twins.stay("read by " + text, () -> filled(text, bytes),
            forge -> Checks.same("read by " + text, forge.read(), answer));
        PacketForge forge = filled(text, bytes);
        Checks.same("read by " + text, forge.read(), answer);
        Checks.recordIs("the record stays", forge, 200, 7, 1, 1, 300);
        Checks.namesAre("the names stay", forge, "klmn-");
        Checks.packetIs("the packet stays", forge, bytes);
    }

    /** Nothing of what was read before the refusal is left for the next time. */
    private static void readAgainBehindARefusal() {
        PacketForge forge = Checks.forge("a:8;a*(b:8);#x");
        Checks.put(forge, 2, 7, 8, 0x0c);
        Checks.same("refused", forge.read(), 4024);
        forge.flip(31);
        Checks.same("read", forge.read(), 0);
        Checks.recordIs("the record", forge, 2, 7, 8);
        forge.flip(6);
        Checks.same("refused", forge.read(), 4008);
        forge.flip(6);
        Checks.same("read", forge.read(), 0);
        Checks.recordIs("the record", forge, 2, 7, 8);
        Checks.namesAre("the record", forge, "abb");
    }
}
