import java.util.ArrayList;
import java.util.HashMap;
import java.util.HashSet;
import java.util.List;
import java.util.Map;
import java.util.Set;

/**
 * The document once more, told in another way than the program does: a tree of items, packets as
 * texts of 0 and 1, and refusals as exceptions. It is there to be compared with.
 */
final class Model {
    /** The answer where the document leaves it open which fault a text has. */
    static final int OPEN = -1;

    static final class Refused extends RuntimeException {
        private static final long serialVersionUID = 1L;
        final int answer;

        Refused(int what, int where) {
            answer = what == OPEN ? OPEN : 1000 * what + where;
        }
    }

    static final class Item {
        char kind;
        char name;
        int width;
        int number;
        boolean low;
        List<Item> list;
    }

    private final String text;
    private int at;
    private final Map<Character, Integer> widths = new HashMap<>();

    private Model(String text) {
        this.text = text;
    }

    static List<Item> parse(String text) {
        Model m = new Model(text);
        List<Item> list = m.list(new HashSet<>(), 0);
        if (m.at != text.length()) {
            throw new Refused(1, m.at);
        }
        return list;
    }

    private char see() {
        return at < text.length() ? text.charAt(at) : '\0';
    }

    private void eat(char c) {
        if (see() != c) {
            throw new Refused(1, at);
        }
        at++;
    }

    private List<Item> list(Set<Character> around, int open) {
        Set<Character> known = new HashSet<>(around);
        List<Item> items = new ArrayList<>();
        while (true) {
            Item item = item(known, open);
            items.add(item);
            if (item.kind == ':') {
                known.add(item.name);
            }
            if (item.kind == '.' && (see() == ';' || see() == ')')) {
                throw new Refused(see() == ')' && open == 0 ? OPEN : 5, at);
            }
            if (see() != ';') {
                return items;
            }
            at++;
        }
    }

    private Item item(Set<Character> known, int open) {
        Item item = new Item();
        int begin = at;
        char c = see();
        if (Character.isLowerCase(c) && c < 128) {
            at++;
            item.name = c;
            item.kind = see();
            named(item, begin, known, open);
            return item;
        }
        item.kind = c;
        switch (c) {
            case '_' -> at++;
            case '#' -> {
                at++;
                if (see() != 'x' && see() != 's') {
                    throw new Refused(1, at);
                }
                item.number = see();
                at++;
            }
            case '=' -> {
                at++;
                item.number = number();
                eat(':');
                int widthAt = at;
                item.width = width();
                if (item.number >= Math.pow(2, item.width)) {
                    throw new Refused(1, widthAt);
                }
            }
            case '.' -> {
                at++;
                inner(item, known, open, true);
            }
            default -> throw new Refused(1, at);
        }
        return item;
    }

    private void named(Item item, int begin, Set<Character> known, int open) {
        switch (item.kind) {
            case ':' -> {
                if (widths.containsKey(item.name)) {
                    throw new Refused(2, begin);
                }
                at++;
                item.width = width();
                if (see() == '<' && Set.of(8, 16, 24).contains(item.width)) {
                    item.low = true;
                    at++;
                }
                widths.put(item.name, item.width);
            }
            case '*', '?' -> {
                if (!known.contains(item.name) || widths.get(item.name) > 8) {
                    throw new Refused(3, begin);
                }
                at++;
                item.width = widths.get(item.name);
                if (item.kind == '?' && Character.isDigit(see())) {
                    item.kind = 'c';
                    item.number = number();
                }
                inner(item, known, open, item.kind == '*');
            }
            default -> throw new Refused(1, at);
        }
    }

    private void inner(Item item, Set<Character> known, int open, boolean needsField) {
        if (see() == '(' && open == 6) {
            throw new Refused(4, at);
        }
        eat('(');
        item.list = list(known, open + 1);
        if (see() == ')' && needsField && item.list.stream().noneMatch(i -> i.kind == ':')) {
            throw new Refused(6, at);
        }
        eat(')');
    }

    private int number() {
        int begin = at;
        while (Character.isDigit(see())) {
            at++;
        }
        String digits = text.substring(begin, at);
        if (!digits.matches("0|[1-9][0-9]{0,2}")) {
            throw new Refused(1, begin);
        }
        return Integer.parseInt(digits);
    }

    private int width() {
        int begin = at;
        int width = number();
        if (width < 1 || width > 24) {
            throw new Refused(1, begin);
        }
        return width;
    }

    static int least(List<Item> items) {
        int bits = 0;
        for (Item i : items) {
            bits = switch (i.kind) {
                case ':', '=' -> bits + i.width;
                case '#' -> bits + 8;
                case '_' -> (bits + 7) / 8 * 8;
                default -> bits;
            };
        }
        return Math.min(bits, 513);
    }

    static int greatest(List<Item> items, int before) {
        int bits = before;
        for (Item i : items) {
            int times = i.kind == '*' ? (int) Math.pow(2, i.width) - 1 : 1;
            switch (i.kind) {
                case ':', '=' -> bits += i.width;
                case '#' -> bits += 8;
                case '_' -> bits = (bits + 7) / 8 * 8;
                case '.' -> bits = 513;
                default -> {
                    for (int k = 0; k < times && bits <= 512; k++) {
                        bits = greatest(i.list, bits);
                    }
                }
            }
            bits = Math.min(bits, 513);
        }
        return bits;
    }

    /** Reads bits, or writes values, by the items; what comes of it is in bits, values and names. */
    static final class Way {
        final boolean reads;
        final StringBuilder bits = new StringBuilder();
        final List<Integer> values = new ArrayList<>();
        final List<Integer> names = new ArrayList<>();
        private final Map<Character, Integer> latest = new HashMap<>();
        private final String packet;
        private final List<Integer> record;

        Way(List<Item> layout, String packet) {
            this.reads = true;
            this.packet = packet;
            this.record = List.of();
            go(layout);
            if (bits.length() < packet.length()) {
                throw new Refused(7, bits.length());
            }
        }

        Way(List<Item> layout, List<Integer> record) {
            this.reads = false;
            this.packet = "";
            this.record = record;
            go(layout);
            if (values.size() < record.size()) {
                throw new Refused(13, bits.length());
            }
            if (bits.length() % 8 != 0) {
                throw new Refused(15, bits.length());
            }
        }

        private void go(List<Item> items) {
            for (Item i : items) {
                switch (i.kind) {
                    case ':' -> field(i);
                    case '=' -> fixed(asBits(i.number, i.width), 2);
                    case '_' -> fixed("0".repeat((800 - bits.length()) % 8), 3);
                    case '#' -> check(i);
                    case '*' -> times(i, latest.get(i.name));
                    case '?' -> times(i, latest.get(i.name) != 0 ? 1 : 0);
                    case 'c' -> times(i, latest.get(i.name) == i.number ? 1 : 0);
                    default -> {
                        while (reads ? bits.length() < packet.length() : values.size() < record.size()) {
                            go(i.list);
                        }
                    }
                }
            }
        }

        private void times(Item i, int n) {
            for (int k = 0; k < n; k++) {
                go(i.list);
            }
        }

        private void field(Item i) {
            int value;
            if (reads) {
                if (values.size() == 60) {
                    throw new Refused(6, bits.length());
                }
                value = Integer.parseInt(inOrder(take(i.width), i.low), 2);
            } else {
                if (values.size() == record.size()) {
                    throw new Refused(12, bits.length());
                }
                value = record.get(values.size());
                if (value >= Math.pow(2, i.width)) {
                    throw new Refused(11, bits.length());
                }
                give(inOrder(asBits(value, i.width), i.low));
            }
            values.add(value);
            names.add(i.name - 'a');
            latest.put(i.name, value);
        }

        private void check(Item i) {
            if (bits.length() % 8 != 0) {
                throw new Refused(5, bits.length());
            }
            int all = 0;
            for (int b = 0; b < bits.length(); b += 8) {
                int one = Integer.parseInt(bits.substring(b, b + 8), 2);
                all = i.number == 'x' ? all ^ one : (all + one) % 256;
            }
            fixed(asBits(all, 8), 4);
        }

        private void fixed(String due, int else_) {
            if (!reads) {
                give(due);
                return;
            }
            int begin = bits.length();
            if (!take(due.length()).equals(due)) {
                throw new Refused(else_, begin);
            }
        }

        private String take(int n) {
            int begin = bits.length();
            if (begin + n > packet.length()) {
                throw new Refused(1, begin);
            }
            bits.append(packet, begin, begin + n);
            return packet.substring(begin, begin + n);
        }

        private void give(String more) {
            if (bits.length() + more.length() > 512) {
                throw new Refused(14, bits.length());
            }
            bits.append(more);
        }
    }

    static String asBits(int number, int width) {
        String bits = Integer.toBinaryString(number);
        return "0".repeat(width - bits.length()) + bits;
    }

    private static String inOrder(String bits, boolean low) {
        if (!low) {
            return bits;
        }
        StringBuilder other = new StringBuilder();
        for (int b = bits.length() - 8; b >= 0; b -= 8) {
            other.append(bits, b, b + 8);
        }
        return other.toString();
    }
}
