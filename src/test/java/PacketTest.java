/** Promises 7 put, 8 drop, 9 size, 10 byteAt and 11 flip. */
final class PacketTest {
    public static void main(String[] args) {
        putTakesTheLowestByteFirst();
        putRefuses();
        putFillsThePacket();
        dropKeepsTheFirst();
        byteAtThrows();
        flipTurnsOneBit();
        flipThrows();
        Checks.end();
    }

    private static void putTakesTheLowestByteFirst() {
        PacketForge forge = new PacketForge();
        Checks.yes("put", forge.put(0x8877665544332211L, 8));
        Checks.packetIs("eight", forge, 0x11, 0x22, 0x33, 0x44, 0x55, 0x66, 0x77, 0x88);
        Checks.yes("put", forge.put(-1, 1));
        Checks.packetIs("nine", forge, 0x11, 0x22, 0x33, 0x44, 0x55, 0x66, 0x77, 0x88, 255);
        Checks.yes("put", forge.put(0x0100, 2));
        Checks.same("size", forge.size(), 11);
        Checks.same("byte 9", forge.byteAt(9), 0);
        Checks.same("byte 10", forge.byteAt(10), 1);
    }

    private static void putRefuses() {
        PacketForge forge = new PacketForge();
        for (int n : new int[] {0, 9, -1, Integer.MIN_VALUE, Integer.MAX_VALUE}) {
            Checks.no("put with n " + n, forge.put(-1, n));
            Checks.same("size", forge.size(), 0);
        }
    }

    private static void putFillsThePacket() {
        PacketForge forge = new PacketForge();
        for (int k = 0; k < 7; k++) {
            Checks.yes("put", forge.put(k, 8));
        }
        Checks.yes("four make 60", forge.put(0, 4));
        Checks.no("five would be 65", forge.put(0, 5));
        Checks.same("size", forge.size(), 60);
        Checks.yes("four make 64", forge.put(0x04030201, 4));
        Checks.same("size", forge.size(), 64);
        Checks.no("one would be 65", forge.put(0, 1));
        Checks.same("size", forge.size(), 64);
        Checks.same("the last byte", forge.byteAt(63), 4);
    }

    private static void dropKeepsTheFirst() {
        PacketForge forge = new PacketForge();
        Checks.put(forge, 7, 8, 9);
        Checks.no("drop to 4", forge.drop(4));
        Checks.no("drop to -1", forge.drop(-1));
        Checks.no("drop to the least int", forge.drop(Integer.MIN_VALUE));
        Checks.no("drop to the greatest int", forge.drop(Integer.MAX_VALUE));
        Checks.yes("drop to all", forge.drop(3));
        Checks.packetIs("all", forge, 7, 8, 9);
        Checks.yes("drop to 1", forge.drop(1));
        Checks.packetIs("one", forge, 7);
        Checks.put(forge, 5);
        Checks.packetIs("what comes stands behind what was kept", forge, 7, 5);
        Checks.yes("drop to 0", forge.drop(0));
        Checks.same("size", forge.size(), 0);
        Checks.yes("nothing to drop", forge.drop(0));
    }

    private static void byteAtThrows() {
        PacketForge forge = new PacketForge();
        Checks.fails("no byte at all", IndexOutOfBoundsException.class, () -> forge.byteAt(0));
        Checks.put(forge, 7, 8);
        Checks.yes("drop", forge.drop(1));
        for (int i : new int[] {1, -1, 64, Integer.MIN_VALUE, Integer.MAX_VALUE}) {
            Checks.fails("byte " + i, IndexOutOfBoundsException.class, () -> forge.byteAt(i));
        }
        Checks.same("byte 0", forge.byteAt(0), 7);
    }

    private static void flipTurnsOneBit() {
        PacketForge forge = new PacketForge();
        Checks.put(forge, 0, 255);
        forge.flip(0);
        Checks.packetIs("the highest bit first", forge, 128, 255);
        forge.flip(7);
        Checks.packetIs("the lowest bit last", forge, 129, 255);
        forge.flip(8);
        forge.flip(15);
        Checks.packetIs("the next byte", forge, 129, 126);
        forge.flip(0);
        forge.flip(10);
        Checks.packetIs("and back", forge, 1, 94);
    }

    private static void flipThrows() {
        PacketForge forge = new PacketForge();
        Checks.fails("no bit at all", IndexOutOfBoundsException.class, () -> forge.flip(0));
        Checks.put(forge, 7, 8);
        Checks.yes("drop", forge.drop(1));
        for (int i : new int[] {8, -1, 512, Integer.MIN_VALUE, Integer.MAX_VALUE}) {
            Checks.fails("flip " + i, IndexOutOfBoundsException.class, () -> forge.flip(i));
        }
        Checks.packetIs("the packet stays", forge, 7);
    }
}
