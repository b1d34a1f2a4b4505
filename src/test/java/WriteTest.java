/** Promise 13, write: what each item puts, and every refusal with its bit. */
final class WriteTest {
    public static void main(String[] args) {
        fields();
        fixedParts();
        partsWithLists();
        valuesNotAsDue();
        tooManyBytes();
        notWholeBytes();
        packetStays();
        Checks.end();
    }

    private static PacketForge due(String text, int answer, int... values) {
        PacketForge forge = Checks.forge(text);
        Checks.add(forge, values);
        Checks.same("write by " + text, forge.write(), answer);
        Checks.recordIs("writing leaves the record", forge, values);
        if (answer == 0) {
            Checks.same("read again by " + text, forge.read(), 0);
            Checks.recordIs("read again by " + text, forge, values);
        }
        return forge;
    }

    private static void dueBytes(String text, int[] bytes, int... values) {
        PacketForge forge = due(text, 0, values);
        Checks.packetIs("written by " + text, forge, bytes);
    }

    private static int[] row(int... numbers) {
        return numbers;
    }

    private static void fields() {
        dueBytes("a:8", row(200), 200);
        dueBytes("a:1;b:2;c:5", row(0b10100011), 1, 1, 3);
        dueBytes("a:16", row(0x12, 0x34), 0x1234);
        dueBytes("a:16<", row(0x34, 0x12), 0x1234);
        dueBytes("a:24<", row(0x56, 0x34, 0x12), 0x123456);
        dueBytes("a:8<", row(0x12), 0x12);
        dueBytes("a:4;b:16<;c:4", row(0x12, 0x34, 0x56), 1, 0x4523, 6);
    }

    private static void fixedParts() {
        dueBytes("=18:8", row(0x12));
        dueBytes("a:4;=2:4", row(0x12), 1);
        dueBytes("a:1;_;b:8;_", row(0x80, 0xff), 1, 255);
        dueBytes("_", row());
        dueBytes("#x", row(0));
        dueBytes("a:8;b:8;#x", row(0xf0, 0x3c, 0xcc), 0xf0, 0x3c);
        dueBytes("a:8;b:8;#s", row(0xf0, 0x3c, 0x2c), 0xf0, 0x3c);
        dueBytes("a:8;#x;#s", row(5, 5, 10), 5);
        due("a:4;#x", 5004, 1);
        due("a:4;#s;b:4", 5004, 1, 2);
    }

    private static void partsWithLists() {
        dueBytes("a:8;a*(b:8)", row(0), 0);
        dueBytes("a:8;a*(b:8)", row(2, 7, 8), 2, 7, 8);
        due("a:8;a*(b:8)", 12016, 2, 7);
        due("a:8;a*(b:8)", 13016, 1, 7, 8);
        dueBytes("a:8;a?(b:8)", row(0), 0);
        dueBytes("a:8;a?(b:8)", row(2, 7), 2, 7);
        dueBytes("a:8;a?2(b:8);a?3(c:8)", row(3, 7), 3, 7);
        due("a:8;a?2(b:8);a?3(c:8)", 13008, 1, 7);
        dueBytes("a:8;a?0(b:8)", row(0, 7), 0, 7);
        dueBytes(".(a:8)", row());
        dueBytes(".(a:8;=1:8)", row(7, 1, 8, 1), 7, 8);
        dueBytes(".(a:8;a*(b:8))", row(1, 9, 0, 2, 7, 8), 1, 9, 0, 2, 7, 8);
        due(".(a:8;b:8)", 12024, 1, 2, 3);
        dueBytes("a:4;a?(a?1(a?(a?(a?(a*(b:4))))))", row(0x17), 1, 7);
    }

    private static void valuesNotAsDue() {
        due("a:8", 11000, 256);
        due("a:8", 0, 255);
        due("a:1", 11000, 2);
        due("a:24", 11000, 1 << 24);
        due("a:24", 0, (1 << 24) - 1);
        due("a:24<", 11000, Integer.MAX_VALUE);
        due("a:8;b:3", 11008, 1, 8);
        due("a:8", 12000);
        due("a:8;b:8", 12008, 1);
        due("a:8", 13008, 1, 2);
        due("_", 13000, 1);
        due("a:7", 13007, 1, 2);
    }

    private static void tooManyBytes() {
        PacketForge forge = Checks.forge("a:8;a*(b:24)");
        Checks.add(forge, 21);
        for (int k = 0; k < 21; k++) {
            forge.add(k);
        }
        Checks.same("64 bytes", forge.write(), 0);
        Checks.same("size", forge.size(), 64);
        forge.set(0, 22);
        Checks.same("of 12 and 14, 12", forge.write(), 12512);
        forge.add(1 << 24);
        Checks.same("of 11 and 14, 11", forge.write(), 11512);
        forge.set(22, 5);
        Checks.same("67 bytes", forge.write(), 14512);
        Checks.same("the packet stays", forge.byteAt(0), 21);
        fixedPartsBehindFullPackets();
    }

    private static void fixedPartsBehindFullPackets() {
        String[] texts = {"a:8;a*(b:24);_", "a:8;a*(b:24);=0:1", "a:8;a*(b:24);#x", "a:8;a*(b:24);#s"};
        int[] answers = {0, 14512, 14512, 14512};
        for (int t = 0; t < texts.length; t++) {
            PacketForge forge = Checks.forge(texts[t]);
            Checks.add(forge, 21);
            for (int k = 0; k < 21; k++) {
                forge.add(k);
            }
            Checks.same("write by " + texts[t], forge.write(), answers[t]);
        }
        PacketForge inside = Checks.forge("a:4;.(b:24;#x)");
        Checks.add(inside, 1, 2);
        Checks.same("a check inside of a byte", inside.write(), 5028);
        fiveComesBeforeFourteen();
    }

    private static void fiveComesBeforeFourteen() {
        PacketForge forge = Checks.forge("a:8;a*(b:23);c:20;#x");
        Checks.add(forge, 21);
        for (int k = 0; k < 22; k++) {
            forge.add(k);
        }
        Checks.same("at bit 511 a check is refused 5", forge.write(), 5511);
    }

    private static void notWholeBytes() {
        due("a:7", 15007, 1);
        due("a:8;b:1", 15009, 1, 1);
        due("=1:1", 15001);
        due("a:8;.(b:1)", 15011, 1, 1, 1, 1);
    }

    private static void packetStays() {
        PacketForge forge = Checks.forge("a:8;b:8");
        Checks.put(forge, 1, 2, 3);
        Checks.add(forge, 7);
        Checks.same("refused", forge.write(), 12008);
        Checks.packetIs("the packet stays", forge, 1, 2, 3);
        forge.add(255);
        Checks.same("write", forge.write(), 0);
        Checks.packetIs("the new packet", forge, 7, 255);
        forge.set(1, 0);
        Checks.same("write", forge.write(), 0);
        Checks.packetIs("no bit of the last one is left", forge, 7, 0);
    }
}
