import java.util.Arrays;

/**
 * Packet layouts are read from a text and made to code that both reads packets into records and
 * writes records into packets. What each call answers and changes is promised in DOC.md.
 *
 * <p>Every row is made in the constructor and used again, so that no call makes an object.
 */
public final class PacketForge {
    public static final int NONE = -1;

    private static final int MOST_CHARACTERS = 100;
    private static final int MOST_BYTES = 64;
    private static final int MOST_BITS = 8 * MOST_BYTES;
    private static final int MOST_VALUES = 60;
    private static final int MOST_OPEN = 6;
    private static final int MOST_AT_ONCE = 8;
    private static final int NAMES = 26;

    private static final int FIELD = 0;
    private static final int LOW_FIRST_FIELD = 1;
    private static final int CONSTANT = 2;
    private static final int REPEATED = 3;
    private static final int OPTION = 4;
    private static final int CASE = 5;
    private static final int REST = 6;
    private static final int PAD = 7;
    private static final int XOR_CHECK = 8;
    private static final int SUM_CHECK = 9;

    private final Row text;
    private final Packet packet;
    private final Row record;
    private final Row recordNames;
    private final Layout layout;
    private final Layout draft;
    private final Parser parser;
    private final Reader reader;
    private final Writer writer;
    private boolean hasLayout;

    public PacketForge() {
        text = new Row(MOST_CHARACTERS);
        packet = new Packet();
        record = new Row(MOST_VALUES);
        recordNames = new Row(MOST_VALUES);
        layout = new Layout();
        draft = new Layout();
        parser = new Parser(text, draft);
        reader = new Reader(layout, packet);
        writer = new Writer(layout, record);
        hasLayout = false;
    }

    public boolean type(long w, int n) {
        return areCharacters(w, n) && text.appendBytes(w, n);
    }

    public boolean cut(int n) {
        return text.shorten(n);
    }

    public int compile() {
        int fault = parser.run();
        if (fault == 0) {
            layout.become(draft);
            hasLayout = true;
        }
        return fault;
    }

    public int length(boolean greatest) throws IllegalStateException {
        if (!hasLayout) {
            throw new IllegalStateException("there is no layout");
        }
        return greatest ? layout.greatestLength() : layout.leastLength();
    }

    public int width(int name) throws IllegalStateException, IndexOutOfBoundsException {
        if (!hasLayout) {
            throw new IllegalStateException("there is no layout");
        }
        if (!layout.hasField(name)) {
            throw new IndexOutOfBoundsException("the layout has no such field");
        }
        return layout.fieldWidth(name);
    }

    public boolean put(long w, int n) {
        return packet.appendBytes(w, n);
    }

    public boolean drop(int n) {
        return packet.shorten(n);
    }

    public int size() {
        return packet.count;
    }

    public int byteAt(int i) throws IndexOutOfBoundsException {
        if (!packet.holds(i)) {
            throw new IndexOutOfBoundsException("the packet has no such byte");
        }
        return packet.at(i);
    }

    public void flip(int i) throws IndexOutOfBoundsException {
        if (i < 0 || i >= packet.bits()) {
            throw new IndexOutOfBoundsException("the packet has no such bit");
        }
        packet.turnBit(i);
    }

    public int read() throws IllegalStateException {
        if (!hasLayout) {
            throw new IllegalStateException("there is no layout");
        }
        int refused = reader.run();
        if (refused == 0) {
            record.become(reader.found);
            recordNames.become(reader.passedNames);
        }
        return refused;
    }

    public int write() throws IllegalStateException {
        if (!hasLayout) {
            throw new IllegalStateException("there is no layout");
        }
        int refused = writer.run();
        if (refused == 0) {
            packet.become(writer.packet);
            recordNames.become(writer.passedNames);
        }
        return refused;
    }

    public int values() {
        return record.count;
    }

    public int value(int i) throws IndexOutOfBoundsException {
        if (!record.holds(i)) {
            throw new IndexOutOfBoundsException("the record has no such value");
        }
        return record.at(i);
    }

    public int name(int i) throws IndexOutOfBoundsException {
        if (!record.holds(i)) {
            throw new IndexOutOfBoundsException("the record has no such value");
        }
        return recordNames.at(i);
    }

    public void add(int v) throws IllegalArgumentException, UnsupportedOperationException {
        if (v < 0) {
            throw new IllegalArgumentException("a value is not negative");
        }
        if (record.isFull()) {
            throw new UnsupportedOperationException("the record is full");
        }
        record.append(v);
        recordNames.append(NONE);
    }

    public void set(int i, int v) throws IndexOutOfBoundsException, IllegalArgumentException {
        if (!record.holds(i)) {
            throw new IndexOutOfBoundsException("the record has no such value");
        }
        if (v < 0) {
            throw new IllegalArgumentException("a value is not negative");
        }
        record.change(i, v);
        recordNames.change(i, NONE);
    }

    public boolean keep(int n) {
        return record.shorten(n) && recordNames.shorten(n);
    }

    private static boolean areCharacters(long w, int n) {
        for (int k = 0; k < n && k < MOST_AT_ONCE; k++) {
            int c = byteOf(w, k);
            if (c < 32 || c > 126) {
                return false;
            }
        }
        return true;
    }

    private static int byteOf(long w, int k) {
        return (int) (w >>> (8 * k)) & 255;
    }

    private static int bitsUpToByte(int bits) {
        return -bits & 7;
    }

    /** Numbers one behind the other, in a room that never grows. */
    private static class Row {
        final int[] cells;
        int count;

        Row(int room) {
            cells = new int[room];
        }

        boolean holds(int i) {
            return i >= 0 && i < count;
        }

        boolean isFull() {
            return count >= cells.length;
        }

        int at(int i) {
            return i >= 0 && i < count ? cells[i] : 0;
        }

        void change(int i, int number) {
            if (i >= 0 && i < count) {
                cells[i] = number;
            }
        }

        void append(int number) {
            if (count < cells.length) {
                cells[count] = number;
                count++;
            }
        }

        boolean appendBytes(long w, int n) {
            if (n < 1 || n > MOST_AT_ONCE || n > cells.length - count) {
                return false;
            }
            for (int k = 0; k < n; k++) {
                append(byteOf(w, k));
            }
            return true;
        }

        boolean shorten(int n) {
            if (n < 0 || n > count) {
                return false;
            }
            count = n;
            return true;
        }

        void clear() {
            count = 0;
        }

        void become(Row other) {
            count = Math.min(other.count, cells.length);
            System.arraycopy(other.cells, 0, cells, 0, count);
        }
    }

    /** A row of bytes whose bits can be reached, the highest bit of each byte first. */
    private static final class Packet extends Row {
        Packet() {
            super(MOST_BYTES);
        }

        int bits() {
            return 8 * count;
        }

        void turnBit(int i) {
            if (i >= 0 && i < 8 * count) {
                cells[i / 8] ^= 128 >> (i % 8);
            }
        }

        int number(int from, int width) {
            int number = 0;
            for (int i = from; i < from + width; i++) {
                number = 2 * number + (at(i / 8) >> (7 - i % 8) & 1);
            }
            return number;
        }

        /** The bits from there on must be 0 yet, which those of a new byte are. */
        void place(int from, int width, int number) {
            for (int k = 0; k < width; k++) {
                int i = from + k;
                if (i >= bits()) {
                    append(0);
                }
                if ((number >> (width - 1 - k) & 1) == 1) {
                    turnBit(i);
                }
            }
        }

        int xorOfFirst(int n) {
            int xor = 0;
            for (int i = 0; i < n; i++) {
                xor ^= at(i);
            }
            return xor;
        }

        int sumOfFirst(int n) {
            int sum = 0;
            for (int i = 0; i < n; i++) {
                sum += at(i);
            }
            return sum % 256;
        }
    }

    /**
     * The code that a text is made to: its items in the order of the text. An item's own list are
     * the items from the next one up to its end that are one level deeper.
     */
    private static final class Layout {
        /** Two items have a character between them at least. */
        private static final int MOST_ITEMS = MOST_CHARACTERS / 2;
        private static final int TOO_LONG = MOST_BITS + 1;

        private final int[] kinds = new int[MOST_ITEMS];
        private final int[] levels = new int[MOST_ITEMS];
        private final int[] names = new int[MOST_ITEMS];
        private final int[] widths = new int[MOST_ITEMS];
        private final int[] numbers = new int[MOST_ITEMS];
        private final int[] ends = new int[MOST_ITEMS];
        private final int[] fieldWidths = new int[NAMES];
        private int count;

        void clear() {
            count = 0;
            Arrays.fill(fieldWidths, 0);
        }

        void become(Layout other) {
            count = other.count;
            System.arraycopy(other.kinds, 0, kinds, 0, count);
            System.arraycopy(other.levels, 0, levels, 0, count);
            System.arraycopy(other.names, 0, names, 0, count);
            System.arraycopy(other.widths, 0, widths, 0, count);
            System.arraycopy(other.numbers, 0, numbers, 0, count);
            System.arraycopy(other.ends, 0, ends, 0, count);
            System.arraycopy(other.fieldWidths, 0, fieldWidths, 0, NAMES);
        }

        /** The index of the new item. */
        int append(int kind, int level, int name, int width, int number) {
            int item = count < MOST_ITEMS ? count : MOST_ITEMS - 1;
            kinds[item] = kind;
            levels[item] = level;
            names[item] = name;
            widths[item] = width;
            numbers[item] = number;
            count = item + 1;
            ends[item] = count;
            return item;
        }

        void appendField(int kind, int level, int name, int width) {
            append(kind, level, name, width, 0);
            fieldWidths[name] = width;
        }

        void endListOf(int item) {
            ends[item] = count;
        }

        boolean hasField(int name) {
            return name >= 0 && name < NAMES && fieldWidths[name] > 0;
        }

        int fieldWidth(int name) {
            return hasField(name) ? fieldWidths[name] : 0;
        }

        int leastLength() {
            int bits = 0;
            for (int i = 0; i < count; i++) {
                if (levels[i] == 0 && !hasList(i)) {
                    bits = lengthBehind(i, bits);
                }
            }
            return bits;
        }

        int greatestLength() {
            return greatestBehindList(0, count, 0, 0);
        }

        private boolean hasList(int item) {
            int kind = kinds[item];
            return kind == REPEATED || kind == OPTION || kind == CASE || kind == REST;
        }

        private int greatestBehindList(int from, int to, int level, int before) {
            int bits = before;
            for (int i = from; i < to && level <= MOST_OPEN; i++) {
                if (levels[i] == level) {
                    bits = hasList(i) ? greatestBehindLists(i, bits) : lengthBehind(i, bits);
                }
            }
            return bits;
        }

        private int greatestBehindLists(int item, int before) {
            if (kinds[item] == REST) {
                return TOO_LONG;
            }
            int most = kinds[item] == REPEATED ? greatestNumber(fieldWidth(names[item])) : 1;
            int bits = before;
            for (int k = 0; k < most && bits < TOO_LONG; k++) {
                bits = greatestBehindList(item + 1, ends[item], levels[item] + 1, bits);
            }
            return bits;
        }

        private int lengthBehind(int item, int before) {
            int taken = kinds[item] == PAD ? bitsUpToByte(before) : widths[item];
            return Math.min(before + taken, TOO_LONG);
        }

        private static int greatestNumber(int width) {
            return (1 << width) - 1;
        }
    }

    /** Goes through the text from its beginning and makes it to a layout, or finds its fault. */
    private static final class Parser {
        private static final int NOT_A_LAYOUT = 1;
        private static final int NAME_TWICE = 2;
        private static final int NAME_NOT_KNOWN = 3;
        private static final int TOO_DEEP = 4;
        private static final int REST_NOT_LAST = 5;
        private static final int NO_OWN_FIELD = 6;

        private static final int END = -1;
        private static final int GREATEST_NUMBER = 999;
        private static final int GREATEST_WIDTH = 24;
        private static final int GREATEST_WIDTH_THAT_COUNTS = 8;

        private final Row text;
        private final Layout layout;
        private int place;
        private int fault;
        /** A bit for each name, as lists inside one another need no more than that to be undone. */
        private int known;

        Parser(Row text, Layout layout) {
            this.text = text;
            this.layout = layout;
        }

        /** 0, or the first fault and its place. */
        int run() {
            layout.clear();
            place = 0;
            fault = 0;
            known = 0;
            parseList(0);
            if (place < text.count) {
                fail(NOT_A_LAYOUT, place);
            }
            return fault;
        }

        private void fail(int what, int where) {
            if (fault == 0) {
                fault = 1000 * what + where;
            }
        }

        /** Behind a fault nothing more is seen, so that all that is open comes to its end. */
        private int seen() {
            return fault == 0 && place < text.count ? text.cells[place] : END;
        }

        private void expect(int c) {
            if (seen() == c) {
                place++;
            } else {
                fail(NOT_A_LAYOUT, place);
            }
        }

        /** Whether the list has a field of its own. */
        private boolean parseList(int level) {
            boolean ownField = false;
            boolean another = true;
            for (int k = 0; k <= MOST_CHARACTERS && another; k++) {
                int kind = parseItem(level);
                if (kind == FIELD) {
                    ownField = true;
                }
                if (kind == REST && (seen() == ';' || seen() == ')' && level > 0)) {
                    fail(REST_NOT_LAST, place);
                }
                another = seen() == ';';
                if (another) {
                    place++;
                }
            }
            return ownField;
        }

        /** The kind of the item, FIELD for a field in either order; NONE for no item. */
        private int parseItem(int level) {
            int c = seen();
            if (c >= 'a' && c <= 'z') {
                return parseNamed(c - 'a', level);
            }
            switch (c) {
                case '=':
                    return parseConstant(level);
                case '.':
                    place++;
                    return parseWithList(REST, level, 0, 0);
                case '_':
                    place++;
                    layout.append(PAD, level, 0, 0, 0);
                    return PAD;
                case '#':
                    return parseCheck(level);
                default:
                    fail(NOT_A_LAYOUT, place);
                    return NONE;
            }
        }

        private int parseNamed(int name, int level) {
            int nameAt = place;
            place++;
            switch (seen()) {
                case ':':
                    if (layout.hasField(name)) {
                        fail(NAME_TWICE, nameAt);
                    }
                    place++;
                    return parseField(name, level);
                case '*':
                    failUnlessCounts(name, nameAt);
                    place++;
                    return parseWithList(REPEATED, level, name, 0);
                case '?':
                    failUnlessCounts(name, nameAt);
                    place++;
                    if (isDigit(seen())) {
                        return parseWithList(CASE, level, name, parseNumber(0, GREATEST_NUMBER));
                    }
                    return parseWithList(OPTION, level, name, 0);
                default:
                    fail(NOT_A_LAYOUT, place);
                    return NONE;
            }
        }

        private void failUnlessCounts(int name, int nameAt) {
            boolean isKnown = (known >> name & 1) == 1;
            if (!isKnown || layout.fieldWidth(name) > GREATEST_WIDTH_THAT_COUNTS) {
                fail(NAME_NOT_KNOWN, nameAt);
            }
        }

        private int parseField(int name, int level) {
            int width = parseNumber(1, GREATEST_WIDTH);
            boolean lowFirst = seen() == '<' && width % 8 == 0;
            if (lowFirst) {
                place++;
            }
            layout.appendField(lowFirst ? LOW_FIRST_FIELD : FIELD, level, name, width);
            known |= 1 << name;
            return FIELD;
        }

        private int parseConstant(int level) {
            place++;
            int number = parseNumber(0, GREATEST_NUMBER);
            expect(':');
            int widthAt = place;
            int width = parseNumber(1, GREATEST_WIDTH);
            if (number >= 1 << width) {
                fail(NOT_A_LAYOUT, widthAt);
            }
            layout.append(CONSTANT, level, 0, width, number);
            return CONSTANT;
        }

        private int parseCheck(int level) {
            place++;
            int kind = seen() == 'x' ? XOR_CHECK : SUM_CHECK;
            expect(kind == XOR_CHECK ? 'x' : 's');
            layout.append(kind, level, 0, 8, 0);
            return kind;
        }

        private int parseWithList(int kind, int level, int name, int number) {
            int item = layout.append(kind, level, name, 0, number);
            if (seen() == '(' && level >= MOST_OPEN) {
                fail(TOO_DEEP, place);
            }
            expect('(');
            if (fault != 0) {
                return NONE;
            }
            int knownBefore = known;
            boolean ownField = parseList(level + 1);
            known = knownBefore;
            boolean needsField = kind == REPEATED || kind == REST;
            if (seen() == ')' && needsField && !ownField) {
                fail(NO_OWN_FIELD, place);
            }
            expect(')');
            layout.endListOf(item);
            return kind;
        }

        private int parseNumber(int least, int greatest) {
            int numberAt = place;
            int number = 0;
            for (int k = 0; k < MOST_CHARACTERS && isDigit(seen()); k++) {
                number = Math.min(10 * number + seen() - '0', GREATEST_NUMBER + 1);
                place++;
            }
            int digits = place - numberAt;
            boolean zeroBefore = digits > 1 && text.at(numberAt) == '0';
            if (digits == 0 || zeroBefore || number < least || number > greatest) {
                fail(NOT_A_LAYOUT, numberAt);
            }
            return number;
        }

        private static boolean isDigit(int c) {
            return c >= '0' && c <= '9';
        }
    }

    /** What reading and writing have in common: one way through the layout and the packet. */
    private abstract static class Pass {
        private static final int NOT_THE_CONSTANT = 2;
        private static final int PAD_NOT_ZERO = 3;
        private static final int NOT_THE_CHECK = 4;
        private static final int CHECK_INSIDE_BYTE = 5;

        final Layout layout;
        final Packet packet;
        final Row passedNames = new Row(MOST_VALUES);
        private final int[] latest = new int[NAMES];
        int bit;
        int refused;

        Pass(Layout layout, Packet packet) {
            this.layout = layout;
            this.packet = packet;
        }

        abstract void begin();

        /** What is left behind the list is refused. */
        abstract void finish();

        abstract void passField(int kind, int name, int width);

        /** What the layout alone says; a reader refuses other bits with unlike. */
        abstract void passFixed(int width, int number, int unlike);

        abstract boolean restGoesOn();

        /** 0, or what is refused and the bit. */
        int run() {
            bit = 0;
            refused = 0;
            passedNames.clear();
            begin();
            passList(0, layout.count, 0);
            finish();
            return refused;
        }

        /** An item that is refused takes no bits, so that the bit is still where it begins. */
        void refuse(int what) {
            if (refused == 0) {
                refused = 1000 * what + bit;
            }
        }

        void fieldPassed(int name, int width, int number) {
            bit += width;
            passedNames.append(name);
            latest[name] = number;
        }

        private void passList(int from, int to, int level) {
            for (int i = from; i < to && level <= MOST_OPEN && refused == 0; i++) {
                if (layout.levels[i] == level) {
                    passItem(i);
                }
            }
        }

        private void passItem(int item) {
            int kind = layout.kinds[item];
            int width = layout.widths[item];
            switch (kind) {
                case FIELD:
                case LOW_FIRST_FIELD:
                    passField(kind, layout.names[item], width);
                    break;
                case CONSTANT:
                    passFixed(width, layout.numbers[item], NOT_THE_CONSTANT);
                    break;
                case PAD:
                    passFixed(bitsUpToByte(bit), 0, PAD_NOT_ZERO);
                    break;
                case XOR_CHECK:
                case SUM_CHECK:
                    passCheck(kind, width);
                    break;
                default:
                    passLists(item);
            }
        }

        private void passCheck(int kind, int width) {
            if (bit % 8 != 0) {
                refuse(CHECK_INSIDE_BYTE);
                return;
            }
            int bytes = bit / 8;
            int number = kind == XOR_CHECK ? packet.xorOfFirst(bytes) : packet.sumOfFirst(bytes);
            passFixed(width, number, NOT_THE_CHECK);
        }

        /** Each time takes a bit at least, as a list that is repeated has a field of its own. */
        private void passLists(int item) {
            for (int k = 0; k < MOST_BITS && refused == 0 && isOnceMore(item, k); k++) {
                passList(item + 1, layout.ends[item], layout.levels[item] + 1);
            }
        }

        private boolean isOnceMore(int item, int times) {
            int said = latest[layout.names[item]];
            switch (layout.kinds[item]) {
                case REPEATED:
                    return times < said;
                case OPTION:
                    return times == 0 && said != 0;
                case CASE:
                    return times == 0 && said == layout.numbers[item];
                default:
                    return restGoesOn();
            }
        }

        /** The same number with its bytes the other way round. */
        static int turned(int number, int width) {
            int result = 0;
            for (int k = 0; k < width; k += 8) {
                result = result << 8 | number >> k & 255;
            }
            return result;
        }
    }

    /** Reads the packet of the object into a record of its own. */
    private static final class Reader extends Pass {
        private static final int TOO_FEW_BITS = 1;
        private static final int NO_ROOM_IN_RECORD = 6;
        private static final int BITS_LEFT = 7;

        final Row found = new Row(MOST_VALUES);

        Reader(Layout layout, Packet packet) {
            super(layout, packet);
        }

        @Override
        void begin() {
            found.clear();
        }

        @Override
        void finish() {
            if (bit < packet.bits()) {
                refuse(BITS_LEFT);
            }
        }

        @Override
        void passField(int kind, int name, int width) {
            if (found.isFull()) {
                refuse(NO_ROOM_IN_RECORD);
            } else if (width > packet.bits() - bit) {
                refuse(TOO_FEW_BITS);
            } else {
                int bits = packet.number(bit, width);
                int number = kind == LOW_FIRST_FIELD ? turned(bits, width) : bits;
                found.append(number);
                fieldPassed(name, width, number);
            }
        }

        @Override
        void passFixed(int width, int number, int unlike) {
            if (width > packet.bits() - bit) {
                refuse(TOO_FEW_BITS);
            } else if (packet.number(bit, width) != number) {
                refuse(unlike);
            } else {
                bit += width;
            }
        }

        @Override
        boolean restGoesOn() {
            return bit < packet.bits();
        }
    }

    /** Writes the record of the object into a packet of its own. */
    private static final class Writer extends Pass {
        private static final int VALUE_TOO_LARGE = 11;
        private static final int NO_VALUE = 12;
        private static final int VALUES_LEFT = 13;
        private static final int NO_ROOM_IN_PACKET = 14;
        private static final int NOT_WHOLE_BYTES = 15;

        private final Row record;

        Writer(Layout layout, Row record) {
            super(layout, new Packet());
            this.record = record;
        }

        @Override
        void begin() {
            packet.clear();
        }

        @Override
        void finish() {
            if (passedNames.count < record.count) {
                refuse(VALUES_LEFT);
            }
            if (bit % 8 != 0) {
                refuse(NOT_WHOLE_BYTES);
            }
        }

        @Override
        void passField(int kind, int name, int width) {
            int next = passedNames.count;
            int number = record.at(next);
            if (next >= record.count) {
                refuse(NO_VALUE);
            } else if (number >= 1 << width) {
                refuse(VALUE_TOO_LARGE);
            } else if (width > MOST_BITS - bit) {
                refuse(NO_ROOM_IN_PACKET);
            } else {
                int bits = kind == LOW_FIRST_FIELD ? turned(number, width) : number;
                packet.place(bit, width, bits);
                fieldPassed(name, width, number);
            }
        }

        @Override
        void passFixed(int width, int number, int unlike) {
            if (width > MOST_BITS - bit) {
                refuse(NO_ROOM_IN_PACKET);
            } else {
                packet.place(bit, width, number);
                bit += width;
            }
        }

        @Override
        boolean restGoesOn() {
            return passedNames.count < record.count;
        }
    }
}
