import java.util.ArrayList;
import java.util.List;
import java.util.Random;

/** Makes texts that are layouts, or nearly so: some of their names are wrong by chance. */
final class Layouts {
    private final Random random;
    private int fields;

    Layouts(Random random) {
        this.random = random;
    }

    String text() {
        int style = random.nextInt(12);
        if (style == 0) {
            return plain();
        }
        if (style == 1) {
            return deep();
        }
        String whole = list(new ArrayList<>(), 0, 1 + random.nextInt(5));
        return random.nextInt(3) == 0 ? whole + ";" + rest() : whole + wholeBytes();
    }

    /** Few items that take all there is, so that packets and records get full. */
    private String plain() {
        String field = "b:" + (1 + random.nextInt(24));
        switch (random.nextInt(3)) {
            case 0:
                return ".(" + field + ")";
            case 1:
                return "a:8;.(" + field + (random.nextBoolean() ? ";#x)" : ")");
            default:
                return "a:8;a*(" + field + ")" + (random.nextBoolean() ? ";_" : ";=1:3");
        }
    }

    private String deep() {
        int open = 4 + random.nextInt(4);
        StringBuilder text = new StringBuilder("a:3");
        for (int k = 0; k < open; k++) {
            text.append(k == 0 ? ';' : '(').append(random.nextBoolean() ? "a?" : "a?" + random.nextInt(4));
        }
        return text + "(b:5)" + ")".repeat(open - 1) + wholeBytes();
    }

    private String rest() {
        List<String> known = new ArrayList<>();
        String first = field(known);
        String list = list(known, 1, 1 + random.nextInt(2));
        return ".(" + first + ";" + list + wholeBytes() + ")" + (random.nextInt(12) == 0 ? ";_" : "");
    }

    private String wholeBytes() {
        return random.nextInt(4) == 0 ? "" : ";_";
    }

    private String list(List<String> around, int open, int items) {
        List<String> known = new ArrayList<>(around);
        StringBuilder text = new StringBuilder();
        for (int k = 0; k < items; k++) {
            text.append(k == 0 ? "" : ";").append(item(known, open));
        }
        return text.toString();
    }

    private String item(List<String> known, int open) {
        int kind = random.nextInt(10);
        if (kind < 4 || known.isEmpty() && kind >= 7) {
            return field(known);
        }
        switch (kind) {
            case 4:
                int width = 1 + random.nextInt(random.nextBoolean() ? 8 : 24);
                return "=" + random.nextInt(Math.min(999, 1 << width)) + ":" + width;
            case 5:
                return "_";
            case 6:
                return random.nextBoolean() ? "#x" : "#s";
            default:
                return withList(kind, known, open);
        }
    }

    private String field(List<String> known) {
        String name = String.valueOf((char) ('a' + (random.nextInt(60) == 0 ? 0 : fields % 26)));
        fields++;
        int choice = random.nextInt(6);
        if (choice == 0) {
            return name + ":" + 8 * (1 + random.nextInt(3)) + "<";
        }
        int width = choice < 5 ? 1 + random.nextInt(choice < 3 ? 4 : 8) : 9 + random.nextInt(16);
        if (width <= 8 || random.nextInt(20) == 0) {
            known.add(name);
        }
        return name + ":" + width;
    }

    private String withList(int kind, List<String> known, int open) {
        String name = known.get(random.nextInt(known.size()));
        int items = 1 + random.nextInt(open > 3 ? 1 : 3);
        if (kind == 7) {
            List<String> inside = new ArrayList<>(known);
            String first = random.nextInt(12) == 0 ? "_" : field(inside);
            return name + "*(" + first + (random.nextBoolean() ? "" : ";" + list(inside, open + 1, items)) + ")";
        }
        if (random.nextInt(40) == 0) {
            return name + "?(" + rest() + ")";
        }
        String number = kind == 8 ? "" : String.valueOf(random.nextInt(random.nextBoolean() ? 4 : 999));
        return name + "?" + number + "(" + list(known, open + 1, items) + ")";
    }
}
