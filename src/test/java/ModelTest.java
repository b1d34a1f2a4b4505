import java.util.ArrayList;
import java.util.Arrays;
import java.util.List;
import java.util.Random;

/**
 * Random runs of at most 512 calls, compared with the model, for all promises at once. The seed is
 * written down, so that every run of the test makes the same calls.
 */
final class ModelTest {
    private static final int RUNS = 12000;
    private static final int MOST_CALLS = 512;
    /** A new text and one step after it are never more calls than what is left behind these. */
    private static final int LAST_BEGIN = 200;

    private final Random random;
    private final PacketForge forge = new PacketForge();
    private String text = "";
    private List<Model.Item> layout;
    private final List<Integer> packet = new ArrayList<>();
    private final List<Integer> record = new ArrayList<>();
    private final List<Integer> names = new ArrayList<>();
    private int calls;
    private String lastCall = "";
    private static int layouts, reads, writes, wrongCalls;
    private static final int[] FAULTS = new int[7];
    private static final int[] REFUSALS = new int[16];

    private ModelTest(long seed) {
        random = new Random(seed);
    }

    public static void main(String[] args) {
        for (int run = 0; run < RUNS; run++) {
            new ModelTest(20261115L + run).run();
        }
        System.out.println(layouts + " layouts, " + reads + " packets read, " + writes
            + " records written, " + wrongCalls + " wrong calls");
        System.out.println("faults " + Arrays.toString(FAULTS) + ", refusals " + Arrays.toString(REFUSALS));
        Checks.yes("there were enough of each", layouts > RUNS && reads > RUNS && writes > RUNS);
        for (int fault = 1; fault <= 6; fault++) {
            Checks.yes("fault " + fault + " was there", FAULTS[fault] > 0);
        }
        for (int refusal : new int[] {1, 2, 3, 4, 5, 6, 7, 11, 12, 13, 14, 15}) {
            Checks.yes("refusal " + refusal + " was there", REFUSALS[refusal] > 0);
        }
        Checks.end();
    }

    private void run() {
        while (calls <= LAST_BEGIN) {
            newText();
            wrongCall();
            compile();
            if (layout != null) {
                work();
            }
        }
        Checks.yes("no run is too long", calls <= MOST_CALLS);
    }

    private void due(String call, long got, long want) {
        lastCall = call;
        calls++;
        Checks.same(call + " with text " + text + ", packet " + packet + ", record " + record, got, want);
    }

    private void newText() {
        due("cut(0)", forge.cut(0) ? 1 : 0, 1);
        text = new Layouts(random).text();
        if (random.nextInt(3) == 0) {
            text = changed(text);
        }
        text = text.substring(0, Math.min(100, text.length()));
        Checks.type(forge, text);
        calls += (text.length() + 7) / 8;
    }

    private String changed(String of) {
        String some = "abcz;:()*?.=_#xs<0123456789 A";
        char c = some.charAt(random.nextInt(some.length()));
        int at = random.nextInt(of.length() + 1);
        int behind = Math.min(of.length(), at + random.nextInt(3));
        return of.substring(0, at) + (random.nextInt(3) == 0 ? "" : c) + of.substring(behind);
    }

    private void compile() {
        int want = 0;
        try {
            layout = Model.parse(text);
            layouts++;
        } catch (Model.Refused fault) {
            want = fault.answer;
        }
        int got = forge.compile();
        due("compile()", got, want == Model.OPEN ? got : want);
        FAULTS[Math.max(want, 0) / 1000]++;
    }

    private void work() {
        due("length(false)", forge.length(false), Model.least(layout));
        due("length(true)", forge.length(true), Model.greatest(layout, 0));
        for (int k = 0; k < 4 && calls <= LAST_BEGIN; k++) {
            switch (random.nextInt(12)) {
                case 0 -> otherRecord();
                case 1 -> otherPacket();
                case 2 -> smallChange();
                case 3 -> wrongCall();
                case 4 -> longRecord();
                case 5 -> longPacket();
                default -> grownRecord();
            }
            boolean written = random.nextInt(3) > 0 && write();
            if (written ? random.nextBoolean() : random.nextInt(3) > 0) {
                read();
            }
            compareState();
        }
    }

    private void otherRecord() {
        int n = random.nextInt(8);
        due("keep(0)", forge.keep(0) ? 1 : 0, 1);
        record.clear();
        names.clear();
        for (int k = 0; k < n; k++) {
            add(random.nextInt(1 + (1 << random.nextInt(10))));
        }
    }

    private void longRecord() {
        int n = 20 + random.nextInt(41);
        while (record.size() < n) {
            add(record.isEmpty() ? random.nextInt(62) : random.nextInt(2));
        }
    }

    private void longPacket() {
        while (packet.size() + 8 <= 64 && random.nextInt(30) > 0) {
            putBytes(random.nextLong() & random.nextLong(), 8);
        }
    }

    private void putBytes(long w, int n) {
        due("put(" + w + ", " + n + ")", forge.put(w, n) ? 1 : 0, 1);
        for (int b = 0; b < n; b++) {
            packet.add((int) (w >> (8 * b)) & 255);
        }
    }

    private void add(int v) {
        forge.add(v);
        calls++;
        record.add(v);
        names.add(-1);
    }

    /** What the model misses is added, and what is too large or left is taken away. */
    private void grownRecord() {
        int most = random.nextInt(3) == 0 ? 70 : 12;
        for (int k = 0; k < most; k++) {
            int answer = 0;
            try {
                new Model.Way(layout, record);
            } catch (Model.Refused refused) {
                answer = refused.answer / 1000;
            }
            if (answer == 12 && record.size() < 60) {
                add(random.nextInt(random.nextBoolean() ? 2 : 8));
            } else if (answer == 13 || answer == 11) {
                keep(random.nextInt(record.size() + 1));
            } else {
                return;
            }
        }
    }

    private void keep(int n) {
        due("keep(" + n + ")", forge.keep(n) ? 1 : 0, 1);
        while (record.size() > n) {
            record.remove(n);
            names.remove(n);
        }
    }

    private void otherPacket() {
        due("drop(0)", forge.drop(0) ? 1 : 0, 1);
        packet.clear();
        int puts = random.nextInt(random.nextInt(9) + 1);
        for (int k = 0; k < puts; k++) {
            long w = random.nextLong() & random.nextLong() & random.nextLong();
            int n = 1 + random.nextInt(8);
            putBytes(w, n);
        }
    }

    private void smallChange() {
        if (!packet.isEmpty()) {
            int i = random.nextInt(8 * packet.size());
            forge.flip(i);
            calls++;
            packet.set(i / 8, packet.get(i / 8) ^ 128 >> i % 8);
        }
        if (!record.isEmpty()) {
            int i = random.nextInt(record.size());
            int v = random.nextInt(1 << (1 + random.nextInt(25)));
            forge.set(i, v);
            calls++;
            record.set(i, v);
            names.set(i, -1);
        }
    }

    /** Just outside of what is there, or far off. */
    private int outside(int count) {
        int[] some = {-1, count, count + 1, Integer.MIN_VALUE, Integer.MAX_VALUE};
        return some[random.nextInt(some.length)];
    }

    private int notOneToEight() {
        return random.nextBoolean() ? outside(9) : 0;
    }

    /** A call that is refused whatever the forge holds; that it changes nothing is seen later on. */
    private void wrongCall() {
        calls++;
        wrongCalls++;
        long letters = 0x6161616161616161L;
        switch (random.nextInt(14)) {
            case 0 -> Checks.no("type", forge.type(letters, notOneToEight()));
            case 1 -> Checks.no("type", forge.type(letters << 8 | 31, 1 + random.nextInt(8)));
            case 2 -> Checks.no("type", forge.type(letters >>> 8 | 127L << 56, 8));
            case 3 -> Checks.no("cut", forge.cut(outside(text.length() + 1)));
            case 4 -> Checks.no("put", forge.put(letters, notOneToEight()));
            case 5 -> Checks.no("drop", forge.drop(outside(packet.size() + 1)));
            case 6 -> Checks.no("keep", forge.keep(outside(record.size() + 1)));
            case 7 -> fails("byteAt", () -> forge.byteAt(outside(packet.size())));
            case 8 -> fails("flip", () -> forge.flip(outside(8 * packet.size())));
            case 9 -> fails("value", () -> forge.value(outside(record.size())));
            case 10 -> fails("name", () -> forge.name(outside(record.size())));
            case 11 -> fails("set", () -> forge.set(outside(record.size()), random.nextInt(3) - 1));
            case 12 -> Checks.fails("add", IllegalArgumentException.class, () -> forge.add(-1));
            default -> wrongAtLimits(letters);
        }
    }

    private static void fails(String what, Runnable call) {
        Checks.fails(what, IndexOutOfBoundsException.class, call);
    }

    private void wrongAtLimits(long letters) {
        if (record.size() == 60) {
            Checks.fails("add", UnsupportedOperationException.class, () -> forge.add(1));
        } else if (packet.size() > 56) {
            Checks.no("put", forge.put(letters, 65 - packet.size()));
        } else if (text.length() > 92) {
            Checks.no("type", forge.type(letters, 101 - text.length()));
        } else if (!record.isEmpty()) {
            Checks.fails("set", IllegalArgumentException.class, () -> forge.set(0, -1));
        }
    }

    private void read() {
        int want = 0;
        try {
            Model.Way way = new Model.Way(layout, packetBits());
            replace(record, way.values);
            replace(names, way.names);
            reads++;
        } catch (Model.Refused refused) {
            want = refused.answer;
            REFUSALS[want / 1000]++;
        }
        due("read()", forge.read(), want);
    }

    private boolean write() {
        int want = 0;
        try {
            Model.Way way = new Model.Way(layout, record);
            replace(names, way.names);
            packet.clear();
            for (int b = 0; b < way.bits.length(); b += 8) {
                packet.add(Integer.parseInt(way.bits.substring(b, b + 8), 2));
            }
            writes++;
        } catch (Model.Refused refused) {
            want = refused.answer;
            REFUSALS[want / 1000]++;
        }
        due("write()", forge.write(), want);
        return want == 0;
    }

    private String packetBits() {
        StringBuilder bits = new StringBuilder();
        for (int b : packet) {
            bits.append(Model.asBits(b, 8));
        }
        return bits.toString();
    }

    private static void replace(List<Integer> old, List<Integer> by) {
        old.clear();
        old.addAll(by);
    }

    private void compareState() {
        calls += 2 + packet.size() + 2 * record.size();
        String where = " behind " + lastCall + " with text " + text;
        int size = forge.size();
        Checks.same("size()" + where, size, packet.size());
        for (int i = 0; i < Math.min(packet.size(), size); i++) {
            Checks.same("byteAt(" + i + ")" + where, forge.byteAt(i), packet.get(i));
        }
        int values = forge.values();
        Checks.same("values()" + where, values, record.size());
        for (int i = 0; i < Math.min(record.size(), values); i++) {
            Checks.same("value(" + i + ")" + where, forge.value(i), record.get(i));
            Checks.same("name(" + i + ")" + where, forge.name(i), names.get(i));
        }
    }
}
