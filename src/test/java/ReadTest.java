/** Promise 12, read: what each item takes from the packet. */
final class ReadTest {
    public static void main(String[] args) {
        noLayout();
        fields();
        everyWidthAtEveryBit();
        lowestByteFirstAtEveryBit();
        constants();
        pads();
        checks();
        sumsAreModulo256();
        checksOf63Bytes();
        repeated();
        repeatedAsOftenAsTheFieldSays();
        optionsAndCases();
        everyValueOfOptionsAndCases();
        theLatestCounts();
        manyItems();
        deepLists();
        rests();
        theFullPacket();
        theRecordIsWhatWasRead();
        Checks.end();
    }

    /** What is read is written the same again. */
    private static PacketForge due(String text, int answer, int... bytes) {
        PacketForge forge = Checks.forge(text);
        Checks.put(forge, bytes);
        Checks.same("read by " + text, forge.read(), answer);
        Checks.packetIs("reading leaves the packet", forge, bytes);
        if (answer == 0) {
            Checks.same("written again by " + text, forge.write(), 0);
            Checks.packetIs("written again by " + text, forge, bytes);
        }
        return forge;
    }

    private static void dueValues(String text, int[] values, int... bytes) {
        PacketForge forge = due(text, 0, bytes);
        Checks.recordIs("read by " + text, forge, values);
    }

    private static int[] row(int... numbers) {
        return numbers;
    }

    /** "IllegalStateException when there is no layout." */
    private static void noLayout() {
        Twins.stayWhenThrown("read", PacketForge::new, IllegalStateException.class, PacketForge::read);
        Twins.stayWhenThrown("read", () -> {
            PacketForge forge = Checks.typed("a:8");
            Checks.put(forge, 7);
            Checks.add(forge, 8, 9);
            return forge;
        }, IllegalStateException.class, PacketForge::read);
        PacketForge forge = Checks.typed("a:8");
        Checks.put(forge, 7);
        Checks.same("compile", forge.compile(), 0);
        Checks.same("read", forge.read(), 0);
    }

    private static void fields() {
        dueValues("a:8", row(200), 200);
        dueValues("a:1;b:2;c:5", row(1, 1, 3), 0b10100011);
        dueValues("a:16", row(0x1234), 0x12, 0x34);
        dueValues("a:16<", row(0x3412), 0x12, 0x34);
        dueValues("a:8<", row(0x12), 0x12);
        dueValues("a:24", row(0xfedcba), 0xfe, 0xdc, 0xba);
        dueValues("a:24<", row(0xbadcfe), 0xfe, 0xdc, 0xba);
        dueValues("a:4;b:16<;c:4", row(1, 0x4523, 6), 0x12, 0x34, 0x56);
        dueValues("a:4;b:8;c:4", row(1, 0x23, 4), 0x12, 0x34);
    }

    /** "a field takes as many bits as its width, as a number, the highest bit first" */
    private static void everyWidthAtEveryBit() {
        for (int width = 1; width <= 24; width++) {
            int greatest = (1 << width) - 1;
            for (int bit = 0; bit < 8; bit++) {
                String before = bit == 0 ? "" : "=0:" + bit + ";";
                for (int v : new int[] {0, 1, greatest, greatest - 1, 1 << (width - 1), 0x5a5a5a & greatest}) {
                    int[] bytes = Checks.bytes("0".repeat(bit) + Checks.bits(v, width));
                    dueValues(before + "a:" + width + ";_", row(v), bytes);
                }
            }
        }
    }

    /** "(with <: its bytes, the lowest first)" */
    private static void lowestByteFirstAtEveryBit() {
        for (int bit = 0; bit < 8; bit++) {
            String before = bit == 0 ? "" : "=0:" + bit + ";";
            String zeros = "0".repeat(bit);
            String low = Checks.bits(0xc1, 8);
            String middle = Checks.bits(0x42, 8);
            String high = Checks.bits(0x83, 8);
            dueValues(before + "a:8<;_", row(0xc1), Checks.bytes(zeros + low));
            dueValues(before + "a:16<;_", row(0x42c1), Checks.bytes(zeros + low + middle));
            dueValues(before + "a:24<;_", row(0x8342c1), Checks.bytes(zeros + low + middle + high));
        }
    }

    private static void constants() {
        dueValues("=18:8", row(), 0x12);
        dueValues("a:4;=2:4", row(1), 0x12);
        dueValues("=291:12;a:4", row(4), 0x12, 0x34);
        dueValues("=0:24", row(), 0, 0, 0);
        dueValues("=999:24", row(), 0, 3, 0xe7);
        dueValues("=1:1;=0:1;=63:6", row(), 0b10111111);
    }

    /** "A pad takes 0 to 7 bits, up to a multiple of 8" */
    private static void pads() {
        for (int width = 1; width <= 8; width++) {
            int ones = (1 << width) - 1;
            dueValues("a:" + width + ";_;b:8", row(ones, 255), ones << (8 - width), 255);
            dueValues("a:" + width + ";_;_;_;b:8", row(ones, 255), ones << (8 - width), 255);
        }
        dueValues("_", row());
        dueValues("_;a:8;_", row(255), 255);
    }

    /** "A check takes 8 bits, the exclusive or (x), or the sum modulo 256 (s), of all bytes before" */
    private static void checks() {
        dueValues("#x", row(), 0);
        dueValues("#s", row(), 0);
        due("a:8;b:8;#x", 0, 0xf0, 0x3c, 0xcc);
        due("a:8;b:8;#s", 0, 0xf0, 0x3c, 0x2c);
        due("a:8;#x;#x;#s", 0, 5, 5, 0, 10);
        due("a:8;#x;#s", 0, 5, 5, 10);
        due("=7:8;a:3;_;#s", 0, 7, 0xe0, 0xe7);
        due("=7:8;a:3;_;#x", 0, 7, 0xe0, 0xe7);
        due("a:16<;#s", 0, 200, 100, 44);
        due("a:8;.(b:8;#s)", 0, 1, 2, 3, 4, 10);
        due("a:24;b:24;c:24;#x", 0, 1, 2, 4, 8, 16, 32, 64, 128, 3, 252);
        due("a:24;b:24;c:24;#s", 0, 1, 2, 4, 8, 16, 32, 64, 128, 3, 2);
    }

    private static void sumsAreModulo256() {
        for (int a = 0; a < 256; a += 15) {
            for (int b : new int[] {254 - a, 255 - a, 256 - a, 257 - a, 255}) {
                if (b >= 0 && b < 256) {
                    due("a:8;b:8;#s", 0, a, b, (a + b) % 256);
                    due("a:8;b:8;#x", 0, a, b, a ^ b);
                }
            }
        }
        due("a:24;#s", 0, 255, 255, 255, 253);
        due("a:24;#s", 0, 255, 255, 2, 0);
    }

    private static void checksOf63Bytes() {
        for (String check : new String[] {"#x", "#s"}) {
            PacketForge forge = Checks.forge("a:8;a*(b:24);c:16;" + check);
            int[] bytes = new int[64];
            bytes[0] = 20;
            for (int k = 1; k < 63; k++) {
                bytes[k] = 37 * k % 256;
            }
            for (int k = 0; k < 63; k++) {
                bytes[63] = check.equals("#x") ? bytes[63] ^ bytes[k] : (bytes[63] + bytes[k]) % 256;
            }
            Checks.put(forge, bytes);
            Checks.same("read", forge.read(), 0);
            Checks.same("values", forge.values(), 22);
            Checks.same("write", forge.write(), 0);
            Checks.packetIs("all 64 bytes", forge, bytes);
        }
    }

    private static void repeated() {
        dueValues("a:8;a*(b:8)", row(0), 0);
        dueValues("a:8;a*(b:8)", row(1, 7), 1, 7);
        dueValues("a:8;a*(b:8)", row(3, 7, 8, 9), 3, 7, 8, 9);
        dueValues("a:8;a*(b:8;b*(c:4));_", row(2, 1, 5, 2, 6, 7), 2, 1, 0x50, 0x26, 0x70);
        dueValues("a:4;b:4;a*(c:4);b*(d:4)", row(1, 1, 2, 3), 0x11, 0x23);
    }

    /** "A repeated goes through its list as often as the latest of its name is" */
    private static void repeatedAsOftenAsTheFieldSays() {
        for (int n = 0; n < 60; n++) {
            int[] bytes = Checks.bytes(Checks.bits(n, 8) + "1".repeat(n));
            PacketForge forge = due("a:8;a*(b:1);_", 0, bytes);
            Checks.same("values", forge.values(), 1 + n);
            PacketForge odd = due("a:6;a*(b:1);_", 0, Checks.bytes(Checks.bits(n, 6) + "1".repeat(n)));
            Checks.same("values", odd.values(), 1 + n);
        }
    }

    private static void optionsAndCases() {
        dueValues("a:8;a?(b:8);c:8", row(0, 9), 0, 9);
        dueValues("a:8;a?(b:8);c:8", row(1, 8, 9), 1, 8, 9);
        dueValues("a:8;a?2(b:8);a?3(c:8)", row(3, 5), 3, 5);
        dueValues("a:8;a?2(b:8);a?2(c:8)", row(2, 5, 6), 2, 5, 6);
        due("a:8;a?999(b:8)", 0, 255);
        due("a:8;a?256(b:8)", 0, 0);
        dueValues("k:8;.(t:4;t?(u:8);k?1(v:8))", row(1, 1, 10, 11, 0, 12), 0x01, 0x10, 0xa0, 0xb0, 0x0c);
    }

    /** "an option once, if that is not 0; a case once, if that is its number" */
    private static void everyValueOfOptionsAndCases() {
        for (int v = 0; v < 256; v++) {
            if (v == 0) {
                dueValues("a:8;a?(b:8)", row(0), 0);
            } else {
                dueValues("a:8;a?(b:8)", row(v, 77), v, 77);
            }
            for (int number : new int[] {0, 1, v - 1, v, v + 1, v + 256, 255, 999}) {
                if (number == v) {
                    dueValues("a:8;a?" + number + "(b:8)", row(v, 77), v, 77);
                } else if (number >= 0) {
                    dueValues("a:8;a?" + number + "(b:8)", row(v), v);
                }
            }
        }
    }

    /** "that is one value more, and the LATEST of its name" */
    private static void theLatestCounts() {
        PacketForge forge = due(".(a:8;a*(b:8))", 0, 1, 9, 0, 2, 7, 8);
        Checks.recordIs("repeated", forge, 1, 9, 0, 2, 7, 8);
        Checks.namesAre("repeated", forge, "abaabb");
        PacketForge option = due(".(a:8;a?(b:8))", 0, 1, 9, 0, 0, 2, 7);
        Checks.namesAre("option", option, "abaaab");
        PacketForge chosen = due(".(a:8;a?2(b:8))", 0, 2, 9, 0, 1, 2, 7);
        Checks.namesAre("case", chosen, "abaaab");
        PacketForge inner = due("n:8;n*(a:8;a?(b:8;b?(c:8)))", 0, 3, 0, 1, 0, 1, 1, 5);
        Checks.namesAre("inner", inner, "naababc");
    }

    private static void manyItems() {
        dueValues("_;".repeat(45) + "a:8;_;_;_", row(7), 7);
        due("_;".repeat(49) + "#x", 4000, 7);
        due("_;".repeat(49) + "#s", 0, 0);
    }

    private static void deepLists() {
        String text = "a:8;a?(b:8;a?1(c:8;c*(d:8;a?(e:8;a?(f:8;f*(g:8))))))";
        dueValues(text, row(1, 2, 1, 4, 5, 2, 7, 8), 1, 2, 1, 4, 5, 2, 7, 8);
        due(text, 1056, 1, 2, 1, 4, 5, 2, 7);
        dueValues(text, row(1, 2, 0), 1, 2, 0);
    }

    /** "a rest as long as there are bits" */
    private static void rests() {
        dueValues(".(a:8)", row());
        dueValues(".(a:8)", row(1), 1);
        dueValues(".(a:8)", row(1, 2, 3), 1, 2, 3);
        dueValues("a:8;.(b:8)", row(7), 7);
        dueValues(".(a:7;_)", row(1, 2), 2, 4);
        dueValues(".(a:1)", row(1, 0, 0, 0, 0, 0, 0, 1), 0x81);
        dueValues("a:8;.(b:4;c:4)", row(1, 2, 3, 4, 5), 1, 0x23, 0x45);
        dueValues("a:8;.(b:1;_)", row(1, 1, 0), 1, 0x80, 0);
    }

    /** "A PACKET are at most 64 bytes", all of which are read. */
    private static void theFullPacket() {
        PacketForge forge = Checks.forge(".(a:16)");
        int[] bytes = new int[64];
        for (int k = 0; k < 64; k++) {
            bytes[k] = 255 - k;
        }
        Checks.put(forge, bytes);
        Checks.same("read", forge.read(), 0);
        Checks.same("values", forge.values(), 32);
        Checks.same("the last", forge.value(31), 0xc1c0);
        Checks.same("write", forge.write(), 0);
        Checks.packetIs("written again", forge, bytes);
    }

    /** "0, the record being what was read": nothing of the record before is left. */
    private static void theRecordIsWhatWasRead() {
        PacketForge forge = Checks.forge(".(a:8)");
        Checks.put(forge, 5, 6);
        Checks.add(forge, 1, 2, 3);
        Checks.same("read", forge.read(), 0);
        Checks.recordIs("the new record", forge, 5, 6);
        Checks.namesAre("the new record", forge, "aa");
        Checks.yes("drop", forge.drop(0));
        Checks.same("read", forge.read(), 0);
        Checks.recordIs("none", forge);
    }
}
