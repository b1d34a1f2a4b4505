/** Promise 12, read: what each item takes, and every refusal with its bit. */
final class ReadTest {
    public static void main(String[] args) {
        fields();
        constants();
        pads();
        checks();
        repeated();
        optionsAndCases();
        manyItems();
        deepLists();
        rests();
        tooFewBits();
        noRoomInRecord();
        bitsLeft();
        recordStays();
        Checks.end();
    }

    private static PacketForge due(String text, int answer, int... bytes) {
        PacketForge forge = Checks.forge(text);
        Checks.put(forge, bytes);
        Checks.same("read by " + text, forge.read(), answer);
        Checks.packetIs("reading leaves the packet", forge, bytes);
        if (answer == 0) {
            Checks.same("written again by " + text, forge.write(), 0);
            Checks.packetIs("written again by " + text, forge, bytes);
        }
        return forge;
    }

    private static void dueValues(String text, int[] values, int... bytes) {
        PacketForge forge = due(text, 0, bytes);
        Checks.recordIs("read by " + text, forge, values);
    }

    private static int[] row(int... numbers) {
        return numbers;
    }

    private static void fields() {
        dueValues("a:8", row(200), 200);
        dueValues("a:1;b:2;c:5", row(1, 1, 3), 0b10100011);
        dueValues("a:16", row(0x1234), 0x12, 0x34);
        dueValues("a:16<", row(0x3412), 0x12, 0x34);
        dueValues("a:8<", row(0x12), 0x12);
        dueValues("a:24", row(0xfedcba), 0xfe, 0xdc, 0xba);
        dueValues("a:24<", row(0xbadcfe), 0xfe, 0xdc, 0xba);
        dueValues("a:4;b:16<;c:4", row(1, 0x4523, 6), 0x12, 0x34, 0x56);
        dueValues("a:4;b:8;c:4", row(1, 0x23, 4), 0x12, 0x34);
    }

    private static void constants() {
        dueValues("=18:8", row(), 0x12);
        due("=19:8", 2000, 0x12);
        due("a:4;=2:4", 0, 0x12);
        due("a:4;=3:4", 2004, 0x12);
        due("a:4;=9:6", 1004, 0x12);
        due("=291:12;a:4", 0, 0x12, 0x34);
        due("=0:24", 2000, 0, 0, 1);
    }

    private static void pads() {
        dueValues("a:1;_", row(1), 0x80);
        due("a:1;_", 3001, 0x81);
        due("a:1;_", 3001, 0xc0);
        due("a:7;_", 3007, 0x81);
        due("a:8;_;b:8;_", 0, 0xff, 0xff);
        due("_", 0);
        due("a:1;_;_;b:8", 0, 0x80, 0xff);
    }

    private static void checks() {
        due("#x", 0, 0);
        due("#s", 0, 0);
        due("#x", 4000, 1);
        due("a:8;b:8;#x", 0, 0xf0, 0x3c, 0xcc);
        due("a:8;b:8;#x", 4016, 0xf0, 0x3c, 0xcd);
        due("a:8;b:8;#s", 0, 0xf0, 0x3c, 0x2c);
        due("a:8;b:8;#s", 4016, 0xf0, 0x3c, 0x2d);
        due("a:8;#x;#x;#s", 0, 5, 5, 0, 10);
        due("a:8;#x;#s", 0, 5, 5, 10);
        due("a:4;#x", 5004, 0, 0);
        due("a:4;#x", 5004, 0);
        due("a:4;_;#x", 0, 0x50, 0x50);
        due("a:8;#x", 1008, 5);
        due("a:8;.(b:8;#s)", 0, 1, 2, 3, 4, 10);
        due("a:24;b:24;c:24;#x", 0, 1, 2, 4, 8, 16, 32, 64, 128, 3, 252);
        due("a:24;b:24;c:24;#s", 0, 1, 2, 4, 8, 16, 32, 64, 128, 3, 2);
        due("a:8;.(b:8;#s)", 4032, 1, 2, 3, 4, 11);
    }

    private static void repeated() {
        dueValues("a:8;a*(b:8)", row(0), 0);
        dueValues("a:8;a*(b:8)", row(3, 7, 8, 9), 3, 7, 8, 9);
        due("a:8;a*(b:8)", 1016, 2, 7);
        due("a:8;a*(b:8)", 7016, 1, 7, 8);
        dueValues("a:8;a*(b:8;b*(c:4));_", row(2, 1, 5, 2, 6, 7), 2, 1, 0x50, 0x26, 0x70);
    }

    private static void optionsAndCases() {
        dueValues("a:8;a?(b:8)", row(0), 0);
        dueValues("a:8;a?(b:8)", row(2, 5), 2, 5);
        due("a:8;a?(b:8)", 7016, 2, 5, 5);
        dueValues("a:8;a?2(b:8);a?3(c:8)", row(3, 5), 3, 5);
        due("a:8;a?2(b:8);a?3(c:8)", 7008, 1, 5);
        dueValues("a:8;a?0(b:8)", row(0, 9), 0, 9);
        due("a:8;a?999(b:8)", 0, 255);
        dueValues("a:8;a?(b:8);c:8", row(0, 9), 0, 9);
        dueValues("k:8;.(t:4;t?(u:8);k?1(v:8))", row(1, 1, 10, 11, 0, 12), 0x01, 0x10, 0xa0, 0xb0, 0x0c);
    }

    private static void manyItems() {
        dueValues("_;".repeat(45) + "a:8;_;_;_", row(7), 7);
        due("_;".repeat(49) + "#x", 4000, 7);
        due("_;".repeat(49) + "#s", 0, 0);
    }

    private static void deepLists() {
        String text = "a:8;a?(b:8;a?1(c:8;c*(d:8;a?(e:8;a?(f:8;f*(g:8))))))";
        dueValues(text, row(1, 2, 1, 4, 5, 2, 7, 8), 1, 2, 1, 4, 5, 2, 7, 8);
        due(text, 1056, 1, 2, 1, 4, 5, 2, 7);
        dueValues(text, row(1, 2, 0), 1, 2, 0);
    }

    private static void rests() {
        dueValues(".(a:8)", row());
        dueValues(".(a:8)", row(1, 2, 3), 1, 2, 3);
        due(".(a:16)", 1016, 1, 2, 3);
        due(".(a:7)", 1007, 1);
        dueValues(".(a:7;_)", row(1, 2), 2, 4);
        dueValues("a:8;.(b:4;c:4)", row(1, 2, 3, 4, 5), 1, 0x23, 0x45);
        PacketForge forge = due(".(a:8;a*(b:8))", 0, 1, 9, 0, 2, 7, 8);
        Checks.recordIs("the latest counts", forge, 1, 9, 0, 2, 7, 8);
        Checks.namesAre("the latest counts", forge, "abaabb");
    }

    private static void tooFewBits() {
        due("a:1", 1000);
        due("=0:1", 1000);
        due("#x", 1000);
        due("a:8;b:9", 1008, 1, 2);
        due("a:8;=0:9", 1008, 0, 0);
        due("a:1;b:8", 1001, 1);
    }

    private static void noRoomInRecord() {
        PacketForge forge = Checks.forge(".(a:1)");
        Checks.yes("put", forge.put(-1, 8));
        Checks.same("64 values", forge.read(), 6060);
        Checks.yes("drop", forge.drop(7));
        Checks.same("56 values", forge.read(), 0);
        Checks.same("values", forge.values(), 56);
        sixtyValuesFit();
        PacketForge many = Checks.forge("a:8;a*(b:8)");
        Checks.put(many, 60);
        for (int k = 0; k < 60; k++) {
            Checks.put(many, k);
        }
        Checks.same("the 61st, though its bits are there", many.read(), 6480);
        Checks.yes("drop", many.drop(60));
        Checks.same("of 1 and 6, 6", many.read(), 6480);
        Checks.yes("drop", many.drop(59));
        Checks.same("the 60th has no bits", many.read(), 1472);
    }

    private static void sixtyValuesFit() {
        PacketForge forge = Checks.forge(".(a:4)");
        for (int k = 0; k < 30; k++) {
            Checks.put(forge, k);
        }
        Checks.same("60 values", forge.read(), 0);
        Checks.same("values", forge.values(), 60);
        Checks.same("the last", forge.value(59), 13);
        Checks.put(forge, 1);
        Checks.same("62 values", forge.read(), 6240);
    }

    private static void bitsLeft() {
        due("a:1", 7001, 128);
        due("a:8", 7008, 128, 1);
        due("_", 7000, 0);
    }

    private static void recordStays() {
        PacketForge forge = Checks.forge("a:8;b:8");
        Checks.put(forge, 1, 2);
        Checks.same("read", forge.read(), 0);
        Checks.put(forge, 3);
        forge.flip(0);
        Checks.same("refused", forge.read(), 7016);
        Checks.recordIs("the record stays", forge, 1, 2);
        Checks.yes("drop", forge.drop(1));
        Checks.same("refused", forge.read(), 1008);
        Checks.recordIs("the record stays", forge, 1, 2);
        Checks.yes("drop", forge.drop(0));
        Checks.put(forge, 9, 8);
        Checks.same("read", forge.read(), 0);
        Checks.recordIs("the new record", forge, 9, 8);
    }
}
