/** Promises 14 values, 15 value, 16 name, 17 add, 18 set and 19 keep, and the Terms of the record. */
final class RecordTest {
    private static final int[] COUNTS = {0, 1, 2, 59, 60};
    private static final int[] VALUES = {0, 1, 255, 256, 1 << 24, Integer.MAX_VALUE};

    public static void main(String[] args) {
        addPutsBehind();
        addAtItsEdges();
        atMost60Values();
        whichOfSeveralAddThrows();
        refusedAddChangesNothing();
        setChangesOne();
        setAtItsEdges();
        whichOfSeveralSetThrows();
        refusedSetChangesNothing();
        valueAndNameAtTheirEdges();
        keepKeepsTheFirst();
        keepToItsEdges();
        refusedKeepChangesNothing();
        namesOfReading();
        namesOfWriting();
        namesStayWhenRefused();
        namesOfEveryLetter();
        namesWhenKeptAndAdded();
        onlyTheRecordChanges();
        Checks.end();
    }

    /** Value k is 100 + k, so that none is like another. */
    private static PacketForge recordOf(int count) {
        PacketForge forge = new PacketForge();
        for (int k = 0; k < count; k++) {
            forge.add(100 + k);
        }
        return forge;
    }

    private static void isRecordOf(String what, PacketForge forge, int count) {
        Checks.same(what + ": values", forge.values(), count);
        for (int k = 0; k < Math.min(count, forge.values()); k++) {
            Checks.same(what + ": value " + k, forge.value(k), 100 + k);
        }
    }

    /** Sixty values that have names: a is read and z is read, again and again. */
    private static PacketForge namedRecord() {
        PacketForge forge = Checks.forge(".(a:1;z:3)");
        for (int k = 0; k < 15; k++) {
            Checks.put(forge, 0x92);
        }
        Checks.same("read", forge.read(), 0);
        return forge;
    }

    /** "A value more in the record." */
    private static void addPutsBehind() {
        PacketForge forge = new PacketForge();
        Checks.add(forge, 0, 5, Integer.MAX_VALUE);
        Checks.recordIs("three", forge, 0, 5, Integer.MAX_VALUE);
        Checks.namesAre("three", forge, "---");
    }

    /** "IllegalArgumentException when v is negative" */
    private static void addAtItsEdges() {
        for (int v : VALUES) {
            PacketForge forge = new PacketForge();
            forge.add(v);
            Checks.recordIs("added " + v, forge, v);
        }
        for (int v : new int[] {-1, -2, -256, Integer.MIN_VALUE}) {
            PacketForge forge = new PacketForge();
            Checks.fails("add " + v, IllegalArgumentException.class, () -> forge.add(v));
            Checks.same("values", forge.values(), 0);
        }
    }

    /** "UnsupportedOperationException when there are 60", not when there are 59. */
    private static void atMost60Values() {
        PacketForge forge = recordOf(59);
        forge.add(159);
        isRecordOf("the 60th fits", forge, 60);
        Checks.fails("the 61st", UnsupportedOperationException.class, () -> forge.add(160));
        isRecordOf("still 60", forge, 60);
        Checks.yes("keep", forge.keep(59));
        forge.add(7);
        Checks.same("room again", forge.value(59), 7);
        Checks.fails("full again", UnsupportedOperationException.class, () -> forge.add(0));
        PacketForge read = namedRecord();
        Checks.same("60 were read", read.values(), 60);
        Checks.fails("full when read", UnsupportedOperationException.class, () -> read.add(0));
    }

    /** "where several exceptions that a call names fit, it is the one that it names first" */
    private static void whichOfSeveralAddThrows() {
        for (int v : new int[] {-1, Integer.MIN_VALUE}) {
            PacketForge forge = recordOf(60);
            Checks.fails("negative comes first", IllegalArgumentException.class, () -> forge.add(v));
        }
    }

    private static void refusedAddChangesNothing() {
        for (int count : COUNTS) {
            for (int v : new int[] {-1, Integer.MIN_VALUE}) {
                Twins.stayWhenThrown("add " + v, () -> recordOf(count),
                    IllegalArgumentException.class, forge -> forge.add(v));
            }
        }
        Twins.stayWhenThrown("the 61st", () -> recordOf(60),
            UnsupportedOperationException.class, forge -> forge.add(1));
        Twins.stayWhenThrown("the 61st", RecordTest::namedRecord,
            UnsupportedOperationException.class, forge -> forge.add(1));
        Twins.stayWhenThrown("add -1", () -> Checks.rich("a:8"),
            IllegalArgumentException.class, forge -> forge.add(-1));
    }

    /** "Value i becomes v." */
    private static void setChangesOne() {
        PacketForge forge = new PacketForge();
        Checks.add(forge, 1, 2, 3);
        forge.set(1, Integer.MAX_VALUE);
        Checks.recordIs("the second", forge, 1, Integer.MAX_VALUE, 3);
        forge.set(0, 0);
        forge.set(2, 9);
        Checks.recordIs("all", forge, 0, Integer.MAX_VALUE, 9);
    }

    /** "IndexOutOfBoundsException when there is none; IllegalArgumentException when v is negative." */
    private static void setAtItsEdges() {
        for (int count : COUNTS) {
            PacketForge forge = recordOf(count);
            for (int i : new int[] {-1, count, count + 1, 60, Integer.MIN_VALUE, Integer.MAX_VALUE}) {
                Checks.fails("set " + i, IndexOutOfBoundsException.class, () -> forge.set(i, 1));
            }
            isRecordOf("the record stays", forge, count);
            if (count > 0) {
                Checks.fails("first", IllegalArgumentException.class, () -> forge.set(0, -1));
                Checks.fails("last", IllegalArgumentException.class, () -> forge.set(count - 1, -1));
                isRecordOf("the record stays", forge, count);
                forge.set(count - 1, 0);
                Checks.same("the last one", forge.value(count - 1), 0);
                Checks.yes("keep", forge.keep(count - 1));
                Checks.fails("gone", IndexOutOfBoundsException.class, () -> forge.set(count - 1, 1));
            }
        }
        for (int v : VALUES) {
            PacketForge forge = recordOf(1);
            forge.set(0, v);
            Checks.recordIs("set to " + v, forge, v);
        }
    }

    private static void whichOfSeveralSetThrows() {
        for (int count : COUNTS) {
            PacketForge forge = recordOf(count);
            for (int i : new int[] {-1, count, Integer.MIN_VALUE, Integer.MAX_VALUE}) {
                Checks.fails("the index comes first", IndexOutOfBoundsException.class, () -> forge.set(i, -1));
            }
        }
    }

    private static void refusedSetChangesNothing() {
        Twins.stayWhenThrown("set to -1", RecordTest::namedRecord,
            IllegalArgumentException.class, forge -> forge.set(0, -1));
        Twins.stayWhenThrown("set to the least", RecordTest::namedRecord,
            IllegalArgumentException.class, forge -> forge.set(59, Integer.MIN_VALUE));
        for (int i : new int[] {-1, 60, Integer.MIN_VALUE, Integer.MAX_VALUE}) {
            Twins.stayWhenThrown("set " + i, RecordTest::namedRecord,
                IndexOutOfBoundsException.class, forge -> forge.set(i, 1));
        }
        Twins.stayWhenThrown("set 5", () -> Checks.rich("a:8"),
            IndexOutOfBoundsException.class, forge -> forge.set(5, 1));
    }

    /** Of value and of name: "IndexOutOfBoundsException when there is none." */
    private static void valueAndNameAtTheirEdges() {
        for (int count : COUNTS) {
            PacketForge forge = recordOf(count);
            isRecordOf("whole", forge, count);
            for (int i : new int[] {-1, count, count + 1, 60, Integer.MIN_VALUE, Integer.MAX_VALUE}) {
                Checks.fails("value " + i, IndexOutOfBoundsException.class, () -> forge.value(i));
                Checks.fails("name " + i, IndexOutOfBoundsException.class, () -> forge.name(i));
            }
            if (count > 0) {
                Checks.same("name of the first", forge.name(0), PacketForge.NONE);
                Checks.same("name of the last", forge.name(count - 1), PacketForge.NONE);
                Checks.yes("keep", forge.keep(count - 1));
                Checks.fails("gone", IndexOutOfBoundsException.class, () -> forge.value(count - 1));
                Checks.fails("gone", IndexOutOfBoundsException.class, () -> forge.name(count - 1));
            }
        }
        Twins.stayWhenThrown("value", RecordTest::namedRecord,
            IndexOutOfBoundsException.class, forge -> forge.value(60));
        Twins.stayWhenThrown("name", RecordTest::namedRecord,
            IndexOutOfBoundsException.class, forge -> forge.name(60));
    }

    /** "The record keeps its first n values." */
    private static void keepKeepsTheFirst() {
        PacketForge forge = recordOf(3);
        Checks.yes("keep 2", forge.keep(2));
        forge.add(9);
        Checks.recordIs("two and a new one", forge, 100, 101, 9);
        Checks.yes("keep 1", forge.keep(1));
        Checks.recordIs("one", forge, 100);
        Checks.no("the others are gone", forge.keep(2));
        Checks.yes("keep none", forge.keep(0));
        Checks.recordIs("none", forge);
    }

    /** "False when n is negative, or it has not so many": 0 and all that it has are fine. */
    private static void keepToItsEdges() {
        for (int count : COUNTS) {
            for (int n : new int[] {-1, 0, 1, count - 1, count, count + 1, 60, 61}) {
                PacketForge forge = recordOf(count);
                boolean fits = n >= 0 && n <= count;
                Checks.same("keep " + n + " of " + count, forge.keep(n) ? 1 : 0, fits ? 1 : 0);
                isRecordOf("keep " + n + " of " + count, forge, fits ? n : count);
            }
        }
    }

    private static void refusedKeepChangesNothing() {
        for (int n : new int[] {-1, 61, Integer.MIN_VALUE, Integer.MAX_VALUE}) {
            Twins.stayWhenFalse("keep " + n, RecordTest::namedRecord, forge -> forge.keep(n));
            Twins.stayWhenFalse("keep " + n, PacketForge::new, forge -> forge.keep(n));
        }
        Twins.stayWhenFalse("keep 6", () -> Checks.rich("a:8"), forge -> forge.keep(6));
    }

    /** "The name (0 .. 25) of value i, as it was read .. last; NONE, if it was added or set since." */
    private static void namesOfReading() {
        PacketForge forge = Checks.forge("z:8;z*(b:4;a:4)");
        Checks.put(forge, 2, 0x12, 0x34);
        Checks.same("read", forge.read(), 0);
        Checks.namesAre("read", forge, "zbaba");
        forge.set(1, 1);
        Checks.namesAre("set, though to what it was", forge, "z-aba");
        forge.add(5);
        Checks.namesAre("added", forge, "z-aba-");
        forge.set(5, 6);
        Checks.namesAre("added and set", forge, "z-aba-");
        Checks.same("read", forge.read(), 0);
        Checks.namesAre("read again", forge, "zbaba");
    }

    /** "as it was .. written last" */
    private static void namesOfWriting() {
        PacketForge forge = Checks.forge("c:8;d:8;.(e:8)");
        Checks.add(forge, 1, 2, 3);
        Checks.namesAre("added", forge, "---");
        Checks.same("write", forge.write(), 0);
        Checks.namesAre("written", forge, "cde");
        forge.set(0, 7);
        forge.add(8);
        Checks.namesAre("set and added", forge, "-de-");
        Checks.same("write", forge.write(), 0);
        Checks.namesAre("written again", forge, "cdee");
        Checks.yes("cut", forge.cut(0));
        Checks.type(forge, ".(f:16)");
        Checks.same("compile", forge.compile(), 0);
        Checks.namesAre("another layout alone changes no name", forge, "cdee");
        Checks.same("read by it", forge.read(), 0);
        Checks.namesAre("read by another layout", forge, "ff");
        Checks.same("write by it", forge.write(), 0);
        Checks.namesAre("written by another layout", forge, "ff");
    }

    private static void namesStayWhenRefused() {
        PacketForge forge = Checks.forge("z:8;z*(b:4;a:4)");
        Checks.put(forge, 2, 0x12, 0x34);
        Checks.same("read", forge.read(), 0);
        forge.set(1, 1);
        forge.add(5);
        Checks.same("a refused write", forge.write(), 13024);
        Checks.namesAre("a refused write", forge, "z-aba-");
        forge.flip(6);
        Checks.same("a refused read", forge.read(), 7008);
        Checks.namesAre("a refused read", forge, "z-aba-");
    }

    private static void namesOfEveryLetter() {
        for (int name = 0; name < 26; name++) {
            PacketForge forge = Checks.forge((char) ('a' + name) + ":8");
            forge.add(200);
            Checks.same("write", forge.write(), 0);
            Checks.same("written", forge.name(0), name);
            Checks.yes("keep", forge.keep(0));
            Checks.same("read", forge.read(), 0);
            Checks.same("read", forge.name(0), name);
        }
    }

    /** What was kept keeps its names; what is added then has none, though one stood there before. */
    private static void namesWhenKeptAndAdded() {
        PacketForge forge = Checks.forge("a:8;b:8;c:8");
        Checks.put(forge, 1, 2, 3);
        Checks.same("read", forge.read(), 0);
        Checks.no("keep 4", forge.keep(4));
        Checks.yes("keep all", forge.keep(3));
        Checks.namesAre("all", forge, "abc");
        Checks.yes("keep 1", forge.keep(1));
        Checks.add(forge, 8, 9);
        Checks.recordIs("one and two new ones", forge, 1, 8, 9);
        Checks.namesAre("one and two new ones", forge, "a--");
    }

    private static void onlyTheRecordChanges() {
        PacketForge forge = Checks.rich("a:8");
        forge.set(0, 1);
        forge.add(2);
        Checks.yes("keep", forge.keep(5));
        Checks.recordIs("record", forge, 1, 7, 1, 1, 300);
        Checks.namesAre("names", forge, "-lmn-");
        Checks.packetIs("packet", forge, 200, 0x73, 9);
        Checks.same("layout", forge.length(false), 16);
        Checks.same("text", Checks.textLength(forge, 5), 3);
    }
}
