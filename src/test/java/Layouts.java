import java.util.ArrayList;
import java.util.List;
import java.util.Random;

/** Makes texts that are layouts, or nearly so: some of their names are wrong by chance. */
final class Layouts {
    private final Random random;
    private int fields;

    Layouts(Random random) {
        this.random = random;
    }

    String text() {
        String whole = list(new ArrayList<>(), 0, 1 + random.nextInt(5));
        if (random.nextInt(3) == 0) {
            List<String> known = new ArrayList<>();
            String first = field(known);
            whole += ";.(" + first + ";" + list(known, 1, 1 + random.nextInt(2)) + wholeBytes() + ")";
        } else {
            whole += wholeBytes();
        }
        return whole;
    }

    private String wholeBytes() {
        return random.nextInt(4) == 0 ? "" : ";_";
    }

    private String list(List<String> around, int open, int items) {
        List<String> known = new ArrayList<>(around);
        StringBuilder text = new StringBuilder();
        for (int k = 0; k < items; k++) {
            text.append(k == 0 ? "" : ";").append(item(known, open));
        }
        return text.toString();
    }

    private String item(List<String> known, int open) {
        int kind = random.nextInt(10);
        if (kind < 4 || known.isEmpty() && kind >= 7) {
            return field(known);
        }
        switch (kind) {
            case 4:
                int width = 1 + random.nextInt(random.nextBoolean() ? 8 : 24);
                return "=" + random.nextInt(Math.min(999, 1 << width)) + ":" + width;
            case 5:
                return "_";
            case 6:
                return random.nextBoolean() ? "#x" : "#s";
            default:
                return withList(kind, known, open);
        }
    }

    private String field(List<String> known) {
        String name = String.valueOf((char) ('a' + (random.nextInt(60) == 0 ? 0 : fields % 26)));
        fields++;
        int choice = random.nextInt(6);
        if (choice == 0) {
            return name + ":" + 8 * (1 + random.nextInt(3)) + "<";
        }
        int width = choice < 5 ? 1 + random.nextInt(choice < 3 ? 4 : 8) : 9 + random.nextInt(16);
        if (width <= 8 || random.nextInt(20) == 0) {
            known.add(name);
        }
        return name + ":" + width;
    }

    private String withList(int kind, List<String> known, int open) {
        String name = known.get(random.nextInt(known.size()));
        int items = 1 + random.nextInt(open > 3 ? 1 : 3);
        if (kind == 7) {
            List<String> inside = new ArrayList<>(known);
            String first = random.nextInt(12) == 0 ? "_" : field(inside);
            return name + "*(" + first + (random.nextBoolean() ? "" : ";" + list(inside, open + 1, items)) + ")";
        }
        String number = kind == 8 ? "" : String.valueOf(random.nextInt(random.nextBoolean() ? 4 : 999));
        return name + "?" + number + "(" + list(known, open + 1, items) + ")";
    }
}
