/** Promises 7 put, 8 drop, 9 size, 10 byteAt and 11 flip, and what the Terms say of the packet. */
final class PacketTest {
    private static final int[] SIZES = {0, 1, 2, 8, 63, 64};
    private static final long BYTES = 0x8877665544332211L;

    public static void main(String[] args) {
        lowestByteFirst();
        everyByte();
        nIsOneToEight();
        atMost64Bytes();
        roomAgainWhenDropped();
        refusedPutChangesNothing();
        dropKeepsTheFirst();
        dropToItsEdges();
        refusedDropChangesNothing();
        byteAtItsEdges();
        flipTurnsOneBit();
        flipEveryBit();
        flipAtItsEdges();
        refusedByteAtAndFlipChangeNothing();
        onlyThePacketChanges();
        Checks.end();
    }

    /** Byte k is k + 1, so that none is like another. */
    private static PacketForge packetOf(int size) {
        PacketForge forge = new PacketForge();
        for (int k = 0; k < size; k++) {
            Checks.yes("put", forge.put(k + 1, 1));
        }
        return forge;
    }

    /** The first bytes are as packetOf makes them. */
    private static void isPacketOf(String what, PacketForge forge, int size) {
        Checks.same(what + ": size", forge.size(), size);
        for (int k = 0; k < Math.min(size, forge.size()); k++) {
            Checks.same(what + ": byte " + k, forge.byteAt(k), k + 1);
        }
    }

    /** "n bytes come behind the packet, the lowest byte of w first." */
    private static void lowestByteFirst() {
        PacketForge forge = new PacketForge();
        Checks.yes("put", forge.put(BYTES, 8));
        Checks.packetIs("eight", forge, 0x11, 0x22, 0x33, 0x44, 0x55, 0x66, 0x77, 0x88);
        Checks.yes("put", forge.put(-1, 1));
        Checks.packetIs("nine", forge, 0x11, 0x22, 0x33, 0x44, 0x55, 0x66, 0x77, 0x88, 255);
        Checks.yes("put", forge.put(0x0100, 2));
        Checks.same("size", forge.size(), 11);
        Checks.same("byte 9", forge.byteAt(9), 0);
        Checks.same("byte 10", forge.byteAt(10), 1);
    }

    /** "Byte i of the packet, 0 .. 255", whatever the byte is and wherever in w it stood. */
    private static void everyByte() {
        for (int b = 0; b < 256; b++) {
            for (int at = 0; at < 8; at++) {
                PacketForge forge = new PacketForge();
                Checks.yes("put", forge.put((long) b << (8 * at), 8));
                for (int i = 0; i < 8; i++) {
                    Checks.same("byte " + i, forge.byteAt(i), i == at ? b : 0);
                }
            }
        }
    }

    /** "False when n is not 1 .. 8" */
    private static void nIsOneToEight() {
        for (int n = -20; n <= 20; n++) {
            PacketForge forge = new PacketForge();
            boolean fits = n >= 1 && n <= 8;
            Checks.same("put of " + n, forge.put(BYTES, n) ? 1 : 0, fits ? 1 : 0);
            Checks.same("so many came", forge.size(), fits ? n : 0);
            for (int k = 0; fits && k < n; k++) {
                Checks.same("byte " + k, forge.byteAt(k), 0x11 * (k + 1));
            }
        }
    }

    /** "or there would be more than 64": for every n, 64 are fine and 65 are not. */
    private static void atMost64Bytes() {
        for (int n = 1; n <= 8; n++) {
            for (int before = 63 - n; before <= 64; before++) {
                PacketForge forge = packetOf(before);
                boolean fits = before + n <= 64;
                Checks.same(n + " behind " + before, forge.put(BYTES, n) ? 1 : 0, fits ? 1 : 0);
                Checks.same("size", forge.size(), fits ? before + n : before);
                if (fits) {
                    Checks.same("the last byte", forge.byteAt(before + n - 1), 0x11 * n);
                }
            }
        }
    }

    private static void roomAgainWhenDropped() {
        PacketForge forge = packetOf(64);
        Checks.no("no room", forge.put(7, 1));
        Checks.yes("drop", forge.drop(63));
        Checks.no("no room for two", forge.put(7, 2));
        Checks.yes("room for one", forge.put(99, 1));
        Checks.same("the last byte", forge.byteAt(63), 99);
        Checks.same("size", forge.size(), 64);
    }

    private static void refusedPutChangesNothing() {
        for (int size : SIZES) {
            for (int n : new int[] {-1, 0, 9, 64, 256 + 1, Integer.MIN_VALUE, Integer.MAX_VALUE}) {
                Twins.stayWhenFalse("put of " + n, () -> packetOf(size), forge -> forge.put(-1, n));
            }
        }
        Twins.stayWhenFalse("one more", () -> packetOf(64), forge -> forge.put(-1, 1));
        Twins.stayWhenFalse("eight more", () -> packetOf(64), forge -> forge.put(-1, 8));
        Twins.stayWhenFalse("two more", () -> packetOf(63), forge -> forge.put(-1, 2));
        Twins.stayWhenFalse("put of 9", () -> Checks.rich("a:8"), forge -> forge.put(-1, 9));
    }

    /** "The packet keeps its first n bytes." */
    private static void dropKeepsTheFirst() {
        PacketForge forge = packetOf(3);
        Checks.yes("drop to 1", forge.drop(1));
        Checks.packetIs("one", forge, 1);
        Checks.put(forge, 5);
        Checks.packetIs("what comes stands behind what was kept", forge, 1, 5);
        Checks.no("what was dropped is gone", forge.drop(3));
        Checks.yes("drop to 0", forge.drop(0));
        Checks.packetIs("none", forge);
        Checks.yes("nothing to drop", forge.drop(0));
    }

    /** "False when n is negative, or it has not so many": 0 and all that it has are fine. */
    private static void dropToItsEdges() {
        for (int size : SIZES) {
            for (int n : new int[] {-1, 0, 1, size - 1, size, size + 1, 64, 65}) {
                PacketForge forge = packetOf(size);
                boolean fits = n >= 0 && n <= size;
                Checks.same("drop " + size + " to " + n, forge.drop(n) ? 1 : 0, fits ? 1 : 0);
                isPacketOf("drop " + size + " to " + n, forge, fits ? n : size);
            }
        }
    }

    private static void refusedDropChangesNothing() {
        for (int size : SIZES) {
            for (int n : new int[] {-1, size + 1, Integer.MIN_VALUE, Integer.MAX_VALUE}) {
                Twins.stayWhenFalse("drop to " + n, () -> packetOf(size), forge -> forge.drop(n));
            }
        }
        Twins.stayWhenFalse("drop to 4", () -> Checks.rich("a:8"), forge -> forge.drop(4));
    }

    /** "IndexOutOfBoundsException when there is none." */
    private static void byteAtItsEdges() {
        for (int size : SIZES) {
            PacketForge forge = packetOf(size);
            isPacketOf("whole", forge, size);
            for (int i : new int[] {-1, size, size + 1, 64, 65, Integer.MIN_VALUE, Integer.MAX_VALUE}) {
                Checks.fails("byte " + i, IndexOutOfBoundsException.class, () -> forge.byteAt(i));
            }
            if (size > 0) {
                Checks.yes("drop", forge.drop(size - 1));
                Checks.fails("dropped", IndexOutOfBoundsException.class, () -> forge.byteAt(size - 1));
            }
        }
    }

    /** "its BITS, from bit 0 on, are those of its bytes, the highest bit of each first" */
    private static void flipTurnsOneBit() {
        PacketForge forge = new PacketForge();
        Checks.put(forge, 0, 255);
        forge.flip(0);
        Checks.packetIs("the highest bit first", forge, 128, 255);
        forge.flip(7);
        Checks.packetIs("the lowest bit last", forge, 129, 255);
        forge.flip(8);
        forge.flip(15);
        Checks.packetIs("the next byte", forge, 129, 126);
        forge.flip(0);
        forge.flip(10);
        Checks.packetIs("and back", forge, 1, 94);
    }

    /** "Bit i of the packet becomes the other one", and no other bit does. */
    private static void flipEveryBit() {
        for (int i = 0; i < 512; i++) {
            PacketForge forge = packetOf(64);
            forge.flip(i);
            for (int k = 0; k < 64; k++) {
                int mask = k == i / 8 ? 128 >> i % 8 : 0;
                Checks.same("byte " + k + " behind flip " + i, forge.byteAt(k), k + 1 ^ mask);
            }
            forge.flip(i);
            isPacketOf("flipped twice", forge, 64);
        }
    }

    private static void flipAtItsEdges() {
        for (int size : SIZES) {
            PacketForge forge = packetOf(size);
            int bits = 8 * size;
            for (int i : new int[] {-1, -8, bits, bits + 1, 512, Integer.MIN_VALUE, Integer.MAX_VALUE}) {
                Checks.fails("flip " + i, IndexOutOfBoundsException.class, () -> forge.flip(i));
            }
            isPacketOf("the packet stays", forge, size);
            if (size > 0) {
                forge.flip(bits - 1);
                Checks.same("the last bit", forge.byteAt(size - 1), size ^ 1);
                Checks.yes("drop", forge.drop(size - 1));
                Checks.fails("dropped", IndexOutOfBoundsException.class, () -> forge.flip(bits - 1));
                Checks.fails("dropped", IndexOutOfBoundsException.class, () -> forge.flip(bits - 8));
            }
        }
    }

    private static void refusedByteAtAndFlipChangeNothing() {
        for (int size : SIZES) {
            for (int i : new int[] {-1, 8 * size, Integer.MIN_VALUE, Integer.MAX_VALUE}) {
                Twins.stayWhenThrown("flip " + i, () -> packetOf(size),
                    IndexOutOfBoundsException.class, forge -> forge.flip(i));
                Twins.stayWhenThrown("byte " + i, () -> packetOf(size),
                    IndexOutOfBoundsException.class, forge -> forge.byteAt(i));
            }
        }
        Twins.stayWhenThrown("flip 24", () -> Checks.rich("a:8"),
            IndexOutOfBoundsException.class, forge -> forge.flip(24));
    }

    private static void onlyThePacketChanges() {
        PacketForge forge = Checks.rich("a:8");
        forge.flip(0);
        Checks.put(forge, 1, 2);
        Checks.yes("drop", forge.drop(4));
        Checks.packetIs("packet", forge, 200 ^ 128, 0x73, 9, 1);
        Checks.recordIs("record", forge, 200, 7, 1, 1, 300);
        Checks.namesAre("names", forge, "klmn-");
        Checks.same("layout", forge.length(false), 16);
        Checks.same("text", Checks.textLength(forge, 5), 3);
    }
}
