import java.util.ArrayList;
import java.util.List;
import java.util.Random;

/**
 * Random runs of at most 512 calls, compared with the model, for all promises at once. The seed is
 * written down, so that every run of the test makes the same calls.
 */
final class ModelTest {
    private static final int RUNS = 12000;
    private static final int MOST_CALLS = 512;
    /** A new text and one step after it are never more calls than what is left behind these. */
    private static final int LAST_BEGIN = 260;

    private final Random random;
    private final PacketForge forge = new PacketForge();
    private String text = "";
    private List<Model.Item> layout;
    private final List<Integer> packet = new ArrayList<>();
    private final List<Integer> record = new ArrayList<>();
    private final List<Integer> names = new ArrayList<>();
    private int calls;
    private String lastCall = "";
    private static int layouts, reads, writes, refusals;

    private ModelTest(long seed) {
        random = new Random(seed);
    }

    public static void main(String[] args) {
        for (int run = 0; run < RUNS; run++) {
            new ModelTest(20261115L + run).run();
        }
        System.out.println(layouts + " layouts, " + reads + " packets read, " + writes
            + " records written, " + refusals + " refusals");
        Checks.yes("there were enough of each", layouts > RUNS && reads > RUNS && writes > RUNS
            && refusals > RUNS);
        Checks.end();
    }

    private void run() {
        while (calls <= LAST_BEGIN) {
            newText();
            compile();
            if (layout != null) {
                work();
            }
        }
        Checks.yes("no run is too long", calls <= MOST_CALLS);
    }

    private void due(String call, long got, long want) {
        lastCall = call;
        calls++;
        Checks.same(call + " with text " + text + ", packet " + packet + ", record " + record, got, want);
    }

    private void newText() {
        due("cut(0)", forge.cut(0) ? 1 : 0, 1);
        text = new Layouts(random).text();
        if (random.nextInt(3) == 0) {
            text = changed(text);
        }
        text = text.substring(0, Math.min(100, text.length()));
        Checks.type(forge, text);
        calls += (text.length() + 7) / 8;
    }

    private String changed(String of) {
        String some = "abcz;:()*?.=_#xs<0123456789 A";
        char c = some.charAt(random.nextInt(some.length()));
        int at = random.nextInt(of.length() + 1);
        int behind = Math.min(of.length(), at + random.nextInt(3));
        return of.substring(0, at) + (random.nextInt(3) == 0 ? "" : c) + of.substring(behind);
    }

    private void compile() {
        int want = 0;
        try {
            layout = Model.parse(text);
            layouts++;
        } catch (Model.Refused fault) {
            want = fault.answer;
        }
        due("compile()", forge.compile(), want);
    }

    private void work() {
        due("length(false)", forge.length(false), Model.least(layout));
        due("length(true)", forge.length(true), Model.greatest(layout, 0));
        for (int k = 0; k < 4 && calls <= LAST_BEGIN; k++) {
            switch (random.nextInt(7)) {
                case 0 -> otherRecord();
                case 1 -> otherPacket();
                case 2 -> smallChange();
                default -> grownRecord();
            }
            boolean written = random.nextInt(3) > 0 && write();
            if (written ? random.nextBoolean() : random.nextInt(3) > 0) {
                read();
            }
            compareState();
        }
    }

    private void otherRecord() {
        int n = random.nextInt(8);
        due("keep(0)", forge.keep(0) ? 1 : 0, 1);
        record.clear();
        names.clear();
        for (int k = 0; k < n; k++) {
            add(random.nextInt(1 + (1 << random.nextInt(10))));
        }
    }

    private void add(int v) {
        forge.add(v);
        calls++;
        record.add(v);
        names.add(-1);
    }

    /** What the model misses is added, and what is too large or left is taken away. */
    private void grownRecord() {
        for (int k = 0; k < 12; k++) {
            int answer = 0;
            try {
                new Model.Way(layout, record);
            } catch (Model.Refused refused) {
                answer = refused.answer / 1000;
            }
            if (answer == 12 && record.size() < 60) {
                add(random.nextInt(random.nextBoolean() ? 2 : 8));
            } else if (answer == 13 || answer == 11) {
                keep(random.nextInt(record.size() + 1));
            } else {
                return;
            }
        }
    }

    private void keep(int n) {
        due("keep(" + n + ")", forge.keep(n) ? 1 : 0, 1);
        while (record.size() > n) {
            record.remove(n);
            names.remove(n);
        }
    }

    private void otherPacket() {
        due("drop(0)", forge.drop(0) ? 1 : 0, 1);
        packet.clear();
        int puts = random.nextInt(random.nextInt(9) + 1);
        for (int k = 0; k < puts; k++) {
            long w = random.nextLong() & random.nextLong() & random.nextLong();
            int n = 1 + random.nextInt(8);
            due("put(" + w + ", " + n + ")", forge.put(w, n) ? 1 : 0, 1);
            for (int b = 0; b < n; b++) {
                packet.add((int) (w >> (8 * b)) & 255);
            }
        }
    }

    private void smallChange() {
        if (!packet.isEmpty()) {
            int i = random.nextInt(8 * packet.size());
            forge.flip(i);
            calls++;
            packet.set(i / 8, packet.get(i / 8) ^ 128 >> i % 8);
        }
        if (!record.isEmpty()) {
            int i = random.nextInt(record.size());
            int v = random.nextInt(1 << (1 + random.nextInt(25)));
            forge.set(i, v);
            calls++;
            record.set(i, v);
            names.set(i, -1);
        }
    }

    private void read() {
        int want = 0;
        try {
            Model.Way way = new Model.Way(layout, packetBits());
            replace(record, way.values);
            replace(names, way.names);
            reads++;
        } catch (Model.Refused refused) {
            want = refused.answer;
            refusals++;
        }
        due("read()", forge.read(), want);
    }

    private boolean write() {
        int want = 0;
        try {
            Model.Way way = new Model.Way(layout, record);
            replace(names, way.names);
            packet.clear();
            for (int b = 0; b < way.bits.length(); b += 8) {
                packet.add(Integer.parseInt(way.bits.substring(b, b + 8), 2));
            }
            writes++;
        } catch (Model.Refused refused) {
            want = refused.answer;
            refusals++;
        }
        due("write()", forge.write(), want);
        return want == 0;
    }

    private String packetBits() {
        StringBuilder bits = new StringBuilder();
        for (int b : packet) {
            bits.append(Model.asBits(b, 8));
        }
        return bits.toString();
    }

    private static void replace(List<Integer> old, List<Integer> by) {
        old.clear();
        old.addAll(by);
    }

    private void compareState() {
        calls += 2 + packet.size() + 2 * record.size();
        String where = " behind " + lastCall + " with text " + text;
        Checks.same("size()" + where, forge.size(), packet.size());
        for (int i = 0; i < Math.min(packet.size(), forge.size()); i++) {
            Checks.same("byteAt(" + i + ")" + where, forge.byteAt(i), packet.get(i));
        }
        Checks.same("values()" + where, forge.values(), record.size());
        for (int i = 0; i < Math.min(record.size(), forge.values()); i++) {
            Checks.same("value(" + i + ")" + where, forge.value(i), record.get(i));
            Checks.same("name(" + i + ")" + where, forge.name(i), names.get(i));
        }
    }
}
