/** Promises 14 values, 15 value, 16 name, 17 add, 18 set and 19 keep. */
final class RecordTest {
    public static void main(String[] args) {
        addPutsBehind();
        addThrows();
        setChangesOne();
        setThrows();
        valueAndNameThrow();
        keepKeepsTheFirst();
        namesOfReading();
        namesOfWriting();
        Checks.end();
    }

    private static void addPutsBehind() {
        PacketForge forge = new PacketForge();
        Checks.add(forge, 0, 5, Integer.MAX_VALUE);
        Checks.recordIs("three", forge, 0, 5, Integer.MAX_VALUE);
        Checks.namesAre("three", forge, "---");
    }

    private static void addThrows() {
        PacketForge forge = new PacketForge();
        Checks.fails("negative", IllegalArgumentException.class, () -> forge.add(-1));
        Checks.fails("the least", IllegalArgumentException.class, () -> forge.add(Integer.MIN_VALUE));
        Checks.same("values", forge.values(), 0);
        for (int k = 0; k < 60; k++) {
            forge.add(k);
        }
        Checks.fails("there are 60", UnsupportedOperationException.class, () -> forge.add(1));
        Checks.fails("negative comes first", IllegalArgumentException.class, () -> forge.add(-1));
        Checks.same("values", forge.values(), 60);
        Checks.same("the last one", forge.value(59), 59);
        Checks.yes("keep", forge.keep(59));
        forge.add(7);
        Checks.same("room again", forge.value(59), 7);
    }

    private static void setChangesOne() {
        PacketForge forge = new PacketForge();
        Checks.add(forge, 1, 2, 3);
        forge.set(1, Integer.MAX_VALUE);
        Checks.recordIs("the second", forge, 1, Integer.MAX_VALUE, 3);
        forge.set(0, 0);
        forge.set(2, 9);
        Checks.recordIs("all", forge, 0, Integer.MAX_VALUE, 9);
    }

    private static void setThrows() {
        PacketForge forge = Checks.forge("a:8");
        Checks.put(forge, 4);
        Checks.fails("no value at all", IndexOutOfBoundsException.class, () -> forge.set(0, 1));
        Checks.same("read", forge.read(), 0);
        Checks.fails("negative", IllegalArgumentException.class, () -> forge.set(0, -1));
        Checks.fails("the index comes first", IndexOutOfBoundsException.class, () -> forge.set(1, -1));
        for (int i : new int[] {1, -1, 60, Integer.MIN_VALUE, Integer.MAX_VALUE}) {
            Checks.fails("set " + i, IndexOutOfBoundsException.class, () -> forge.set(i, 1));
        }
        Checks.recordIs("the record stays", forge, 4);
        Checks.namesAre("the name stays", forge, "a");
    }

    private static void valueAndNameThrow() {
        PacketForge forge = new PacketForge();
        Checks.fails("no value at all", IndexOutOfBoundsException.class, () -> forge.value(0));
        Checks.fails("no name at all", IndexOutOfBoundsException.class, () -> forge.name(0));
        Checks.add(forge, 1, 2);
        Checks.yes("keep", forge.keep(1));
        for (int i : new int[] {1, -1, 60, Integer.MIN_VALUE, Integer.MAX_VALUE}) {
            Checks.fails("value " + i, IndexOutOfBoundsException.class, () -> forge.value(i));
            Checks.fails("name " + i, IndexOutOfBoundsException.class, () -> forge.name(i));
        }
    }

    private static void keepKeepsTheFirst() {
        PacketForge forge = Checks.forge("a:8;b:8;c:8");
        Checks.put(forge, 1, 2, 3);
        Checks.same("read", forge.read(), 0);
        Checks.no("keep 4", forge.keep(4));
        Checks.no("keep -1", forge.keep(-1));
        Checks.no("keep the least int", forge.keep(Integer.MIN_VALUE));
        Checks.no("keep the greatest int", forge.keep(Integer.MAX_VALUE));
        Checks.yes("keep all", forge.keep(3));
        Checks.recordIs("all", forge, 1, 2, 3);
        Checks.namesAre("all", forge, "abc");
        Checks.yes("keep 2", forge.keep(2));
        forge.add(9);
        Checks.recordIs("two and a new one", forge, 1, 2, 9);
        Checks.namesAre("two and a new one", forge, "ab-");
        Checks.yes("keep 0", forge.keep(0));
        Checks.same("values", forge.values(), 0);
    }

    private static void namesOfReading() {
        PacketForge forge = Checks.forge("z:8;z*(b:4;a:4)");
        Checks.put(forge, 2, 0x12, 0x34);
        Checks.same("read", forge.read(), 0);
        Checks.namesAre("read", forge, "zbaba");
        forge.set(1, 1);
        Checks.namesAre("set, though to what it was", forge, "z-aba");
        forge.add(5);
        Checks.namesAre("added", forge, "z-aba-");
        Checks.same("a refused write", forge.write(), 13024);
        Checks.namesAre("a refused write", forge, "z-aba-");
        forge.flip(6);
        Checks.same("a refused read", forge.read(), 7008);
        Checks.namesAre("a refused read", forge, "z-aba-");
        forge.flip(6);
        Checks.same("read", forge.read(), 0);
        Checks.namesAre("read again", forge, "zbaba");
    }

    private static void namesOfWriting() {
        PacketForge forge = Checks.forge("c:8;d:8;.(e:8)");
        Checks.add(forge, 1, 2, 3);
        Checks.same("write", forge.write(), 0);
        Checks.namesAre("written", forge, "cde");
        forge.set(0, 256);
        Checks.same("refused", forge.write(), 11000);
        Checks.namesAre("refused", forge, "-de");
        Checks.yes("cut", forge.cut(0));
        Checks.type(forge, ".(f:16)");
        Checks.same("compile", forge.compile(), 0);
        Checks.namesAre("another layout alone changes no name", forge, "-de");
        Checks.same("write", forge.write(), 0);
        Checks.namesAre("written by another layout", forge, "fff");
    }
}
