/** "An object is used for at most 512 calls": the dearest calls answer the same up to the last one. */
final class LongRunTest {
    private static final int MOST_CALLS = 512;
    private static final String DEEP = "a:8;a*(b:8;b*(c:8;c*(d:8;d*(e:8;e*(f:8;f*(g:1))))))";

    public static void main(String[] args) {
        compileAgainAndAgain();
        readAndWriteAgainAndAgain();
        measureAgainAndAgain();
        fillAndEmptyAgainAndAgain();
        Checks.end();
    }

    private static void compileAgainAndAgain() {
        PacketForge forge = Checks.typed(DEEP);
        for (int calls = (DEEP.length() + 7) / 8; calls < MOST_CALLS; calls++) {
            Checks.same("compile", forge.compile(), 0);
        }
    }

    private static void measureAgainAndAgain() {
        PacketForge forge = Checks.forge(DEEP);
        for (int calls = (DEEP.length() + 7) / 8 + 1; calls < MOST_CALLS; calls++) {
            Checks.same("length", forge.length(true), 513);
        }
    }

    private static void readAndWriteAgainAndAgain() {
        PacketForge forge = Checks.forge(".(a:9)");
        for (int k = 0; k < 56; k++) {
            forge.add(511 - k);
        }
        for (int calls = 2 + 56; calls + 4 <= MOST_CALLS; calls += 4) {
            Checks.same("write", forge.write(), 0);
            Checks.same("read", forge.read(), 0);
            Checks.same("the last value", forge.value(55), 511 - 55);
            Checks.same("its name", forge.name(55), 0);
        }
    }

    private static void fillAndEmptyAgainAndAgain() {
        PacketForge forge = new PacketForge();
        for (int calls = 0; calls + 32 <= MOST_CALLS; calls += 32) {
            for (int k = 0; k < 8; k++) {
                Checks.yes("put", forge.put(-1, 8));
            }
            Checks.no("full", forge.put(-1, 1));
            Checks.same("size", forge.size(), 64);
            Checks.yes("drop", forge.drop(0));
            for (int k = 0; k < 12; k++) {
                Checks.yes("type", forge.type(0x6161616161616161L, 8));
            }
            Checks.no("full", forge.type(0x6161616161616161L, 5));
            Checks.yes("cut", forge.cut(0));
            forge.add(1);
            Checks.yes("keep", forge.keep(0));
            Checks.same("values", forge.values(), 0);
        }
    }
}
