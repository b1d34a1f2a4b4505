/** Promise 13, write: what each item puts into the packet. */
final class WriteTest {
    public static void main(String[] args) {
        noLayout();
        fields();
        everyWidthAtEveryBit();
        lowestByteFirstAtEveryBit();
        fixedParts();
        padsUpToEveryBit();
        checksOf63Bytes();
        partsWithLists();
        repeatedAsOftenAsTheFieldSays();
        everyValueOfOptionsAndCases();
        theLatestCounts();
        rests();
        theFullPacket();
        thePacketIsWhatWasWritten();
        Checks.end();
    }

    /** What is written is read the same again. */
    private static PacketForge due(String text, int answer, int... values) {
        PacketForge forge = Checks.forge(text);
        Checks.add(forge, values);
        Checks.same("write by " + text, forge.write(), answer);
        Checks.recordIs("writing leaves the record", forge, values);
        if (answer == 0) {
            Checks.same("read again by " + text, forge.read(), 0);
            Checks.recordIs("read again by " + text, forge, values);
        }
        return forge;
    }

    private static void dueBytes(String text, int[] bytes, int... values) {
        PacketForge forge = due(text, 0, values);
        Checks.packetIs("written by " + text, forge, bytes);
    }

    private static int[] row(int... numbers) {
        return numbers;
    }

    /** "IllegalStateException when there is no layout." */
    private static void noLayout() {
        Twins.stayWhenThrown("write", PacketForge::new, IllegalStateException.class, PacketForge::write);
        Twins.stayWhenThrown("write", () -> {
            PacketForge forge = Checks.typed("a:8");
            Checks.put(forge, 7, 8);
            Checks.add(forge, 9);
            return forge;
        }, IllegalStateException.class, PacketForge::write);
        PacketForge forge = Checks.typed("a:8");
        Checks.add(forge, 9);
        Checks.same("compile", forge.compile(), 0);
        Checks.same("write", forge.write(), 0);
    }

    private static void fields() {
        dueBytes("a:8", row(200), 200);
        dueBytes("a:1;b:2;c:5", row(0b10100011), 1, 1, 3);
        dueBytes("a:16", row(0x12, 0x34), 0x1234);
        dueBytes("a:16<", row(0x34, 0x12), 0x1234);
        dueBytes("a:24<", row(0x56, 0x34, 0x12), 0x123456);
        dueBytes("a:8<", row(0x12), 0x12);
        dueBytes("a:4;b:16<;c:4", row(0x12, 0x34, 0x56), 1, 0x4523, 6);
    }

    private static void everyWidthAtEveryBit() {
        for (int width = 1; width <= 24; width++) {
            int greatest = (1 << width) - 1;
            for (int bit = 0; bit < 8; bit++) {
                String before = bit == 0 ? "" : "=0:" + bit + ";";
                for (int v : new int[] {0, 1, greatest, greatest - 1, 1 << (width - 1), 0x5a5a5a & greatest}) {
                    int[] bytes = Checks.bytes("0".repeat(bit) + Checks.bits(v, width));
                    dueBytes(before + "a:" + width + ";_", bytes, v);
                }
            }
        }
    }

    private static void lowestByteFirstAtEveryBit() {
        for (int bit = 0; bit < 8; bit++) {
            String before = bit == 0 ? "" : "=0:" + bit + ";";
            String zeros = "0".repeat(bit);
            String low = Checks.bits(0xc1, 8);
            String middle = Checks.bits(0x42, 8);
            String high = Checks.bits(0x83, 8);
            dueBytes(before + "a:8<;_", Checks.bytes(zeros + low), 0xc1);
            dueBytes(before + "a:16<;_", Checks.bytes(zeros + low + middle), 0x42c1);
            dueBytes(before + "a:24<;_", Checks.bytes(zeros + low + middle + high), 0x8342c1);
        }
    }

    /** "constants, pads and checks put what they must be" */
    private static void fixedParts() {
        dueBytes("=18:8", row(0x12));
        dueBytes("=999:24", row(0, 3, 0xe7));
        dueBytes("=1:1;=0:1;=63:6", row(0b10111111));
        dueBytes("a:4;=2:4", row(0x12), 1);
        dueBytes("_", row());
        dueBytes("#x", row(0));
        dueBytes("#s", row(0));
        dueBytes("a:8;b:8;#x", row(0xf0, 0x3c, 0xcc), 0xf0, 0x3c);
        dueBytes("a:8;b:8;#s", row(0xf0, 0x3c, 0x2c), 0xf0, 0x3c);
        dueBytes("a:8;#x;#s", row(5, 5, 10), 5);
        dueBytes("a:8;#x;#x;#s", row(5, 5, 0, 10), 5);
        dueBytes("=7:8;a:3;_;#s", row(7, 0xe0, 0xe7), 7);
        dueBytes("a:16;#s", row(255, 1, 0), 0xff01);
        dueBytes("a:24;#s", row(255, 255, 255, 253), 0xffffff);
        for (int width = 1; width <= 24; width++) {
            int number = Math.min((1 << width) - 1, 999);
            dueBytes("a:5;=" + number + ":" + width + ";_", Checks.bytes("10101" + Checks.bits(number, width)), 21);
        }
    }

    private static void padsUpToEveryBit() {
        for (int width = 1; width <= 8; width++) {
            int ones = (1 << width) - 1;
            dueBytes("a:" + width + ";_;b:8", row(ones << (8 - width), 255), ones, 255);
            dueBytes("a:" + width + ";_;_;b:8;_", row(ones << (8 - width), 255), ones, 255);
        }
    }

    private static void checksOf63Bytes() {
        for (String check : new String[] {"#x", "#s"}) {
            PacketForge forge = Checks.forge("a:8;a*(b:24);c:16;" + check);
            Checks.add(forge, 20);
            for (int k = 0; k < 20; k++) {
                forge.add(0xc0ffee - 70007 * k);
            }
            forge.add(0xbeef);
            Checks.same("write", forge.write(), 0);
            Checks.same("size", forge.size(), 64);
            int all = 0;
            for (int k = 0; k < 63; k++) {
                all = check.equals("#x") ? all ^ forge.byteAt(k) : (all + forge.byteAt(k)) % 256;
            }
            Checks.same("the check", forge.byteAt(63), all);
            Checks.same("read", forge.read(), 0);
            Checks.same("the last value", forge.value(21), 0xbeef);
        }
    }

    private static void partsWithLists() {
        dueBytes("a:8;a*(b:8)", row(0), 0);
        dueBytes("a:8;a*(b:8)", row(1, 7), 1, 7);
        dueBytes("a:8;a*(b:8)", row(2, 7, 8), 2, 7, 8);
        dueBytes("a:8;a?(b:8);c:8", row(0, 7), 0, 7);
        dueBytes("a:8;a?(b:8);c:8", row(2, 7, 8), 2, 7, 8);
        dueBytes("a:8;a?2(b:8);a?3(c:8)", row(3, 7), 3, 7);
        dueBytes("a:4;a?(a?1(a?(a?(a?(a*(b:4))))))", row(0x17), 1, 7);
        dueBytes("a:8;a*(b:8;b*(c:4));_", row(2, 1, 0x50, 0x26, 0x70), 2, 1, 5, 2, 6, 7);
        dueBytes("a:2;a*(b:3;_;=1:8)", row(0b10111000, 1, 0b01000000, 1), 2, 7, 2);
    }

    private static void repeatedAsOftenAsTheFieldSays() {
        for (int n = 0; n < 60; n++) {
            int[] values = new int[1 + n];
            values[0] = n;
            for (int k = 1; k <= n; k++) {
                values[k] = k % 2;
            }
            dueBytes("a:8;a*(b:1);_", Checks.bytes(Checks.bits(n, 8) + "10".repeat(30).substring(0, n)), values);
        }
    }

    private static void everyValueOfOptionsAndCases() {
        for (int v = 0; v < 256; v++) {
            if (v == 0) {
                dueBytes("a:8;a?(b:8)", row(0), 0);
            } else {
                dueBytes("a:8;a?(b:8)", row(v, 77), v, 77);
            }
            for (int number : new int[] {0, 1, v - 1, v, v + 1, v + 256, 255, 999}) {
                if (number == v) {
                    dueBytes("a:8;a?" + number + "(b:8)", row(v, 77), v, 77);
                } else if (number >= 0) {
                    dueBytes("a:8;a?" + number + "(b:8)", row(v), v);
                }
            }
        }
    }

    private static void theLatestCounts() {
        dueBytes(".(a:8;a*(b:8))", row(1, 9, 0, 2, 7, 8), 1, 9, 0, 2, 7, 8);
        dueBytes(".(a:8;a?(b:8))", row(1, 9, 0, 0, 2, 7), 1, 9, 0, 0, 2, 7);
        dueBytes(".(a:8;a?2(b:8))", row(2, 9, 0, 1, 2, 7), 2, 9, 0, 1, 2, 7);
        dueBytes("n:8;n*(a:8;a?(b:8;b?(c:8)))", row(3, 0, 1, 0, 1, 1, 5), 3, 0, 1, 0, 1, 1, 5);
    }

    /** "a rest goes on as long as values are left" */
    private static void rests() {
        dueBytes(".(a:8)", row());
        dueBytes(".(a:8)", row(7), 7);
        dueBytes("a:8;.(b:8)", row(7), 7);
        dueBytes(".(a:8;=1:8)", row(7, 1, 8, 1), 7, 8);
        dueBytes(".(a:8;#s)", row(1, 1, 2, 4), 1, 2);
        PacketForge sixty = Checks.forge(".(a:8)");
        for (int k = 0; k < 60; k++) {
            sixty.add(k);
        }
        Checks.same("write", sixty.write(), 0);
        Checks.same("60 values", sixty.size(), 60);
        Checks.same("the last one", sixty.byteAt(59), 59);
    }

    /** "A PACKET are at most 64 bytes": so many can be written. */
    private static void theFullPacket() {
        PacketForge forge = Checks.forge("a:8;a*(b:24)");
        Checks.add(forge, 21);
        for (int k = 0; k < 21; k++) {
            forge.add(0xffffff - k);
        }
        Checks.same("64 bytes", forge.write(), 0);
        Checks.same("size", forge.size(), 64);
        Checks.same("the last one", forge.byteAt(63), 255 - 20);
        Checks.same("read", forge.read(), 0);
        Checks.same("values", forge.values(), 22);
        Checks.same("the last one", forge.value(21), 0xffffff - 20);
    }

    /** "0, the packet being what was written": nothing of the packet before is left. */
    private static void thePacketIsWhatWasWritten() {
        PacketForge forge = Checks.forge(".(a:8)");
        Checks.put(forge, 1, 2, 3);
        Checks.add(forge, 7, 255);
        Checks.same("write", forge.write(), 0);
        Checks.packetIs("the new packet", forge, 7, 255);
        forge.set(1, 0);
        Checks.same("write", forge.write(), 0);
        Checks.packetIs("no bit of the last one is left", forge, 7, 0);
        Checks.yes("keep", forge.keep(0));
        Checks.same("write", forge.write(), 0);
        Checks.packetIs("none", forge);
    }
}
