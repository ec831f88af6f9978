import java.util.NoSuchElementException;

/** Sums to nought in finite groups; README.md tells how to use it, the document what it promises. */
public final class NoughtSums {
    public static final int NONE = -1;

    private static final int MOST_PARTS = 3;
    private static final int MOST_ORDER = 24;
    private static final int MOST_PLACES = 12;
    private static final int MOST_SETS = 1 << MOST_PLACES;
    private static final int MOST_TAPE = 340;
    private static final int MOST_TEXT = 300;
    private static final int FED_BYTES = 20;
    private static final int MOST_UNDONE = 8;
    private static final int MOST_DEEDS = 60;
    private static final int MOST_FACTOR = 24;
    private static final int MOST_ORDER_OF_MULTISETS = 12;
    private static final int MOST_ORDER_OF_ENOUGH = 6;
    private static final int IMAGES = 2;
    private static final int NOUGHT = 0;

    private final Tape tape;
    private final Reader reader;
    private final Group group;
    private final Row row;
    private final Row trial;
    private final Row ordered;
    private final Past past;
    private final Image[] images;
    private final SubRows subRows;
    private final Signs signs;
    private final Parting parting;
    private final Multisets multisets;
    private int drawSeed;

    public NoughtSums() {
        reader = new Reader();
        tape = reader.tape();
        group = new Group();
        row = new Row();
        trial = new Row();
        ordered = new Row();
        past = new Past();
        images = new Image[IMAGES];
        for (int k = 0; k < IMAGES; k++) {
            images[k] = new Image();
        }
        subRows = new SubRows();
        signs = new Signs();
        parting = new Parting();
        multisets = new Multisets();
        drawSeed = 0;
    }

    // ---- the tape and its text

    public int feed(int a, int b, int c, int d, int e) {
        if (tape.length() + FED_BYTES > MOST_TAPE) {
            return NONE;
        }
        tape.appendNumber(a);
        tape.appendNumber(b);
        tape.appendNumber(c);
        tape.appendNumber(d);
        tape.appendNumber(e);
        return tape.length();
    }

    public boolean end(int n) {
        return tape.cutTo(n);
    }

    public int text() {
        reader.readWhole();
        tape.cutTo(0);
        if (reader.faultKind() != 0) {
            return -1 - reader.faultPlace();
        }
        group.become(reader.groupCode());
        row.copyFrom(reader.rowRead());
        past.forget();
        return reader.rowsRead();
    }

    public int fault(int what) {
        if (what == 0) {
            return reader.faultKind();
        }
        return what == 1 ? reader.faultRow() : NONE;
    }

    // ---- what stands

    public int now(int what) {
        switch (what) {
            case 0:
                return group.parts();
            case 1:
                return group.order();
            case 2:
                return group.exponent();
            case 3:
                return row.length();
            case 4:
                return sumOfAll();
            case 5:
                return past.length();
            case 6:
                return tape.length();
            default:
                return NONE;
        }
    }

    public int part(int i) {
        return i >= 0 && i < group.parts() ? group.sizeOf(i) : NONE;
    }

    public int at(int place) {
        return row.elementAt(place);
    }

    public int add(int a, int b) {
        return group.has(a) && group.has(b) ? group.plus(a, b) : NONE;
    }

    // ---- sub-rows

    public int sum(int set) throws NoSuchElementException {
        if (set < 1 || set > row.wholeSet()) {
            throw new NoSuchElementException("no such sub-row");
        }
        return row.sumOfSet(group, set);
    }

    public int sums() {
        subRows.study(group, row);
        return subRows.allSums();
    }

    public int found(int g, int what) {
        if (!group.has(g) || what < 0 || what > 1) {
            return NONE;
        }
        subRows.study(group, row);
        int k = subRows.fewestPlaces(g);
        if (k == NONE) {
            return NONE;
        }
        return what == 0 ? k : subRows.leastSet(group, row, g, k);
    }

    public int ways(int g, int k) {
        if (!group.has(g) || k < 0 || k > row.length()) {
            return NONE;
        }
        subRows.countWays(group, row);
        return subRows.waysOf(g, k);
    }

    public int exactly(int g, int k) {
        if (!group.has(g) || k < 1 || k > row.length()) {
            return NONE;
        }
        subRows.study(group, row);
        return subRows.canMake(g, k) ? subRows.leastSet(group, row, g, k) : NONE;
    }

    public int run(int g, int what) {
        if (!group.has(g) || what < 0 || what > 1) {
            return NONE;
        }
        for (int begin = 0; begin < row.length(); begin++) {
            int howLong = row.shortestRun(group, begin, g);
            if (howLong != NONE) {
                return what == 0 ? begin : howLong;
            }
        }
        return NONE;
    }

    public int free(int what) {
        if (what < 0 || what > 2) {
            return NONE;
        }
        subRows.study(group, row);
        if (what == 1) {
            return sumOfAll() == NOUGHT && !subRows.hasLesserNought() ? 1 : 0;
        }
        boolean isFree = !subRows.hasNought();
        if (what == 0) {
            return isFree ? 1 : 0;
        }
        return isFree ? group.withoutOppositesOf(subRows.allSums()) : 0;
    }

    // ---- parted into atoms

    public int atoms(int what) {
        if (sumOfAll() != NOUGHT || what < 0 || what > 1) {
            return NONE;
        }
        parting.study(group, row);
        return what == 0 ? parting.fewestAtoms() : parting.mostAtoms();
    }

    public int atom(int i) {
        if (sumOfAll() != NOUGHT || i < 0) {
            return NONE;
        }
        parting.study(group, row);
        return i < parting.mostAtoms() ? parting.atomOfMost(i) : NONE;
    }

    // ---- signs

    public int signed(int g) {
        return group.has(g) ? signs.countRows(group, row, g) : NONE;
    }

    public int sign(int g, int place) {
        return group.has(g) && row.has(place) ? signs.firstRowAt(group, row, g, place) : NONE;
    }

    // ---- rows alike

    public int like(int place) {
        if (!row.has(place)) {
            return NONE;
        }
        ordered.copyFrom(row);
        ordered.putInOrder();
        for (int u = 2; u <= group.exponent(); u++) {
            if (group.isUnit(u)) {
                trial.copyFrom(row);
                trial.multiply(group, u);
                trial.putInOrder();
                if (trial.isLessThan(ordered)) {
                    ordered.copyFrom(trial);
                }
            }
        }
        return ordered.elementAt(place);
    }

    // ---- the free multisets of the group

    public int frees(int n) {
        if (n < 0 || n > MOST_PLACES || !studyMultisets()) {
            return NONE;
        }
        return multisets.howManyOf(n);
    }

    public int longest() {
        return studyMultisets() ? multisets.firstLongest().length() : NONE;
    }

    public int longestAt(int place) {
        return studyMultisets() ? multisets.firstLongest().elementAt(place) : NONE;
    }

    public int enough() {
        int order = group.order();
        int exponent = group.exponent();
        if (order < 1 || exponent < 1 || order > MOST_ORDER_OF_ENOUGH) {
            return NONE;
        }
        // Known for every group that two elements generate; all groups of so small an order are such.
        return 2 * (order / exponent) + 2 * exponent - 3;
    }

    // ---- acts

    public int come(int g) {
        if (!group.has(g) || row.isFull()) {
            return NONE;
        }
        past.keep(row);
        row.append(g);
        return row.length();
    }

    public int go(int place) {
        if (!row.has(place)) {
            return NONE;
        }
        past.keep(row);
        row.remove(place);
        return row.length();
    }

    public int times(int u) {
        if (!canMultiply(u)) {
            return NONE;
        }
        past.keep(row);
        row.multiply(group, u);
        return sumOfAll();
    }

    public int sort() {
        ordered.copyFrom(row);
        ordered.putInOrder();
        int elsewhere = 0;
        for (int place = 0; place < row.length(); place++) {
            if (ordered.elementAt(place) != row.elementAt(place)) {
                elsewhere++;
            }
        }
        if (elsewhere > 0) {
            past.keep(row);
            row.copyFrom(ordered);
        }
        return elsewhere;
    }

    public int drawn(int n, int seed) {
        if (n < 1 || n > MOST_DEEDS) {
            return NONE;
        }
        trial.copyFrom(row);
        drawSeed = seed;
        int done = 0;
        for (int i = 0; i < n; i++) {
            if (doDrawnDeed()) {
                done++;
            }
        }
        if (done > 0) {
            past.keep(trial);
        }
        return done;
    }

    public int undo() {
        if (past.length() == 0) {
            return NONE;
        }
        past.takeBack(row);
        return past.length();
    }

    public boolean image(int k) {
        Image image = imageAt(k);
        if (image == null) {
            return false;
        }
        image.keep(group, row);
        return true;
    }

    public boolean restore(int k) {
        Image image = imageAt(k);
        if (image == null || !image.isKept()) {
            return false;
        }
        image.giveBack(group, row);
        past.forget();
        return true;
    }

    // ---- helpers of the face

    private Image imageAt(int k) {
        return k >= 0 && k < images.length ? images[k] : null;
    }

    private int sumOfAll() {
        return row.length() == 0 ? NONE : row.sumOfSet(group, row.wholeSet());
    }

    private boolean canMultiply(int u) {
        return row.length() > 0 && u >= 1 && u <= MOST_FACTOR && group.isUnit(u);
    }

    private boolean studyMultisets() {
        if (group.order() < 1 || group.order() > MOST_ORDER_OF_MULTISETS) {
            return false;
        }
        multisets.study(group);
        return true;
    }

    private int draw(int n) {
        drawSeed = drawSeed * 1103515245 + 12345;
        return n < 1 ? 0 : (drawSeed >>> 8) % n;
    }

    private boolean doDrawnDeed() {
        int kind = draw(4);
        if (group.order() == 0) {
            return false;
        }
        if (kind == 0) {
            return row.length() > 0 && row.remove(draw(row.length()));
        }
        if (kind == 1) {
            int u = draw(group.exponent()) + 1;
            if (!canMultiply(u)) {
                return false;
            }
            row.multiply(group, u);
            return true;
        }
        return row.append(draw(group.order()));
    }

    // ---- classes inside

    /** The bytes that have come and are not yet read. */
    private static final class Tape {
        private final byte[] bytes = new byte[MOST_TAPE];
        private int length = 0;

        int length() {
            return length;
        }

        int byteAt(int i) {
            return i >= 0 && i < length && i < bytes.length ? bytes[i] & 255 : NONE;
        }

        void appendNumber(int number) {
            for (int shift = 24; shift >= 0; shift -= 8) {
                if (length >= 0 && length < bytes.length) {
                    bytes[length] = (byte) (number >>> shift);
                    length++;
                }
            }
        }

        boolean cutTo(int n) {
            if (n < 0 || n > length) {
                return false;
            }
            length = n;
            return true;
        }
    }

    /** Has the tape and reads it as a text: a group and a row, or the first fault. */
    private static final class Reader {
        private static final int TOKEN_END = 0;
        private static final int TOKEN_BAD = 1;
        private static final int TOKEN_NUMBER = 2;
        private static final int TOKEN_SEMICOLON = 3;
        private static final int TOKEN_GROUP = 4;
        private static final int TOKEN_PUT = 5;
        private static final int TOKEN_TIMES = 6;

        private static final int FAULT_TOKEN = 1;
        private static final int FAULT_NUMBER = 2;
        private static final int FAULT_PLACES = 3;

        private final Tape tape = new Tape();
        private int next = 0;
        private int token = TOKEN_END;
        private int tokenPlace = 0;
        private int number = 0;
        private int groupCode = 0;
        private int rows = 0;
        private int faultKind = 0;
        private int faultPlace = 0;
        private int faultRow = NONE;
        private final Row row = new Row();

        Tape tape() {
            return tape;
        }

        int faultKind() {
            return faultKind;
        }

        int faultPlace() {
            return faultPlace;
        }

        int faultRow() {
            return faultRow;
        }

        int groupCode() {
            return groupCode;
        }

        int rowsRead() {
            return rows;
        }

        Row rowRead() {
            return row;
        }

        void readWhole() {
            next = 0;
            groupCode = 0;
            rows = 0;
            faultKind = 0;
            faultPlace = 0;
            faultRow = NONE;
            row.clear();
            readToken();
            for (int i = 0; i < MOST_TEXT + 1 && faultKind == 0 && token != TOKEN_END; i++) {
                boolean good = i == 0 ? readGroupRow() : readPutRow();
                if (good) {
                    rows++;
                }
            }
        }

        private boolean readGroupRow() {
            if (token != TOKEN_GROUP) {
                return fail(FAULT_TOKEN);
            }
            readToken();
            int order = 1;
            for (int i = 0; i < MOST_PARTS && (i == 0 || token == TOKEN_NUMBER); i++) {
                if (token != TOKEN_NUMBER) {
                    return fail(FAULT_TOKEN);
                }
                if (number < 2 || number > MOST_ORDER || order * number > MOST_ORDER) {
                    return fail(FAULT_NUMBER);
                }
                order *= number;
                groupCode = Group.codeWith(groupCode, i, number);
                readToken();
            }
            return passSemicolon();
        }

        private boolean readPutRow() {
            if (token != TOKEN_PUT) {
                return fail(FAULT_TOKEN);
            }
            int putPlace = tokenPlace;
            readToken();
            int element = readElement();
            if (element == NONE) {
                return false;
            }
            int howOften = 1;
            boolean told = token == TOKEN_TIMES;
            if (told) {
                readToken();
                howOften = readHowOften();
                if (howOften == NONE) {
                    return false;
                }
            }
            if (!passSemicolon()) {
                return false;
            }
            if (!told && row.isFull()) {
                return failAt(FAULT_PLACES, putPlace);
            }
            for (int i = 0; i < howOften && i < MOST_PLACES; i++) {
                row.append(element);
            }
            return true;
        }

        private int readElement() {
            int element = 0;
            for (int i = 0; i < MOST_PARTS && Group.sizeIn(groupCode, i) > 0; i++) {
                if (token != TOKEN_NUMBER) {
                    fail(FAULT_TOKEN);
                    return NONE;
                }
                if (number >= Group.sizeIn(groupCode, i)) {
                    fail(FAULT_NUMBER);
                    return NONE;
                }
                element = element * Group.sizeIn(groupCode, i) + number;
                readToken();
            }
            return element;
        }

        private int readHowOften() {
            if (token != TOKEN_NUMBER) {
                fail(FAULT_TOKEN);
                return NONE;
            }
            int howOften = number;
            if (howOften < 1 || row.length() + howOften > MOST_PLACES) {
                fail(FAULT_NUMBER);
                return NONE;
            }
            readToken();
            return howOften;
        }

        private boolean passSemicolon() {
            if (token != TOKEN_SEMICOLON) {
                return fail(FAULT_TOKEN);
            }
            readToken();
            return true;
        }

        private boolean fail(int kind) {
            return failAt(kind, tokenPlace);
        }

        private boolean failAt(int kind, int place) {
            faultKind = kind;
            faultPlace = place;
            faultRow = rows;
            return false;
        }

        private void readToken() {
            int limit = Math.min(tape.length(), MOST_TEXT);
            while (next < limit && isBlank(tape.byteAt(next))) {
                next++;
            }
            tokenPlace = Math.min(next, limit);
            if (next >= limit) {
                // A text that goes on behind its limit has no end there: that place is a fault.
                token = tape.length() > MOST_TEXT ? TOKEN_BAD : TOKEN_END;
                return;
            }
            if (tape.byteAt(next) == ';') {
                token = TOKEN_SEMICOLON;
                next++;
                return;
            }
            // It may go on behind the limit: one that begins ahead of it is read whole.
            while (next < tape.length() && isLetterOrDigit(tape.byteAt(next))) {
                next++;
            }
            if (isNumber()) {
                token = TOKEN_NUMBER;
            } else if (spells("group")) {
                token = TOKEN_GROUP;
            } else if (spells("put")) {
                token = TOKEN_PUT;
            } else {
                // A word that no row has faults as what is no token does.
                token = spells("times") ? TOKEN_TIMES : TOKEN_BAD;
            }
        }

        private boolean isNumber() {
            int digits = next - tokenPlace;
            if (digits < 1 || digits > 2) {
                return false;
            }
            number = 0;
            for (int i = tokenPlace; i < next; i++) {
                if (!isDigit(tape.byteAt(i))) {
                    return false;
                }
                number = number * 10 + (tape.byteAt(i) - '0');
            }
            return true;
        }

        private boolean spells(String word) {
            if (next - tokenPlace != word.length()) {
                return false;
            }
            for (int i = 0; i < word.length(); i++) {
                if (tape.byteAt(tokenPlace + i) != word.charAt(i)) {
                    return false;
                }
            }
            return true;
        }

        private static boolean isBlank(int b) {
            return b == 32 || b == 10;
        }

        private static boolean isLetterOrDigit(int b) {
            return b >= 'a' && b <= 'z' || b >= '0' && b <= '9';
        }

        private static boolean isDigit(int b) {
            return b >= '0' && b <= '9';
        }
    }

    /** A group of one to three parts, or none; its parts are packed in one number, its code (0: none). */
    private static final class Group {
        private static final int CODE_BITS = 5;
        private static final int CODE_MASK = 31;

        private final byte[] made = new byte[MOST_ORDER * MOST_ORDER];
        private final byte[] against = new byte[MOST_ORDER];
        private int code = 0;
        private int parts = 0;
        private int order = 0;
        private int exponent = 0;

        static int codeWith(int code, int i, int size) {
            return code | size << CODE_BITS * i;
        }

        static int sizeIn(int code, int i) {
            return code >>> CODE_BITS * i & CODE_MASK;
        }

        int code() {
            return code;
        }

        int parts() {
            return parts;
        }

        int order() {
            return order;
        }

        int exponent() {
            return exponent;
        }

        int sizeOf(int i) {
            return sizeIn(code, i);
        }

        boolean has(int g) {
            return g >= 0 && g < order && g < MOST_ORDER;
        }

        void become(int newCode) {
            if (newCode == code) {
                return;
            }
            code = newCode;
            parts = 0;
            order = newCode == 0 ? 0 : 1;
            exponent = order;
            for (int i = 0; i < MOST_PARTS && sizeOf(i) > 0; i++) {
                parts++;
                order *= sizeOf(i);
                exponent = leastCommonMultiple(exponent, sizeOf(i));
            }
            fillTables();
        }

        private void fillTables() {
            for (int a = 0; a < order && a < MOST_ORDER; a++) {
                for (int b = 0; b < order && b < MOST_ORDER; b++) {
                    int c = plusByParts(a, b);
                    made[a * MOST_ORDER + b] = (byte) c;
                    if (c == NOUGHT) {
                        against[a] = (byte) b;
                    }
                }
            }
        }

        private int plusByParts(int a, int b) {
            int result = 0;
            int weight = 1;
            for (int i = parts - 1; i >= 0; i--) {
                int size = sizeOf(i);
                if (size > 0) {
                    result += weight * ((a % size + b % size) % size);
                    weight *= size;
                    a /= size;
                    b /= size;
                }
            }
            return result;
        }

        private static int leastCommonMultiple(int a, int b) {
            int multiple = a;
            for (int i = 1; i < b && multiple % b != 0; i++) {
                multiple += a;
            }
            return multiple;
        }

        int plus(int a, int b) {
            return has(a) && has(b) ? made[a * MOST_ORDER + b] : NOUGHT;
        }

        int opposite(int g) {
            return has(g) ? against[g] : NOUGHT;
        }

        int multiple(int g, int u) {
            int result = NOUGHT;
            for (int i = 0; i < u; i++) {
                result = plus(result, g);
            }
            return result;
        }

        boolean isUnit(int u) {
            for (int d = 2; d <= u; d++) {
                if (u % d == 0 && exponent % d == 0) {
                    return false;
                }
            }
            return true;
        }

        /** The elements that those of a set become when g is added to each. */
        int moved(int set, int g) {
            if (set == 0) {
                return 0;
            }
            int result = 0;
            for (int e = 0; e < order; e++) {
                if (isIn(set, e)) {
                    result |= 1 << plus(e, g);
                }
            }
            return result;
        }

        /** The elements, but nought, that make nought with none of a set. */
        int withoutOppositesOf(int set) {
            int result = 0;
            for (int g = 1; g < order; g++) {
                if (!isIn(set, opposite(g))) {
                    result |= 1 << g;
                }
            }
            return result;
        }

        static boolean isIn(int set, int g) {
            return (set >>> g & 1) != 0;
        }
    }

    /** A row of elements, each at its place. */
    private static final class Row {
        private final int[] elements = new int[MOST_PLACES];
        private int length = 0;

        int length() {
            return length;
        }

        boolean has(int place) {
            return place >= 0 && place < length && place < MOST_PLACES;
        }

        boolean isFull() {
            return length >= MOST_PLACES;
        }

        int elementAt(int place) {
            return has(place) ? elements[place] : NONE;
        }

        int wholeSet() {
            return (1 << length) - 1;
        }

        void clear() {
            length = 0;
        }

        void copyFrom(Row other) {
            length = other.length;
            for (int place = 0; place < length && place < MOST_PLACES; place++) {
                elements[place] = other.elements[place];
            }
        }

        boolean append(int g) {
            if (length < 0 || length >= MOST_PLACES) {
                return false;
            }
            elements[length] = g;
            length++;
            return true;
        }

        boolean remove(int place) {
            if (!has(place)) {
                return false;
            }
            for (int i = place; i + 1 < length && i + 1 < MOST_PLACES; i++) {
                elements[i] = elements[i + 1];
            }
            length--;
            return true;
        }

        void multiply(Group group, int u) {
            for (int place = 0; place < length && place < MOST_PLACES; place++) {
                elements[place] = group.multiple(elements[place], u);
            }
        }

        void putInOrder() {
            for (int end = 1; end < length && end < MOST_PLACES; end++) {
                int g = elements[end];
                int place = end;
                while (place > 0 && elements[place - 1] > g) {
                    elements[place] = elements[place - 1];
                    place--;
                }
                elements[place] = g;
            }
        }

        boolean isSameAs(Row other) {
            return length == other.length && !isLessThan(other) && !other.isLessThan(this);
        }

        /** Place by place, for a row of as many places. */
        boolean isLessThan(Row other) {
            for (int place = 0; place < length && place < MOST_PLACES; place++) {
                if (elements[place] != other.elements[place]) {
                    return elements[place] < other.elements[place];
                }
            }
            return false;
        }

        int sumOfSet(Group group, int set) {
            int result = NOUGHT;
            for (int place = 0; place < length && place < MOST_PLACES; place++) {
                if ((set >>> place & 1) != 0) {
                    result = group.plus(result, elements[place]);
                }
            }
            return result;
        }

        /** How long the shortest run from a place on is that makes g; NONE if none does. */
        int shortestRun(Group group, int begin, int g) {
            int made = NOUGHT;
            for (int place = Math.max(begin, 0); place < length && place < MOST_PLACES; place++) {
                made = group.plus(made, elements[place]);
                if (made == g) {
                    return place - begin + 1;
                }
            }
            return NONE;
        }
    }

    /** What the sub-rows of a row make, by how many places. */
    private static final class SubRows {
        // made[i][k]: the sums of k of the first i places, as bits (k 0: nought alone)
        private final int[][] made = new int[MOST_PLACES + 1][MOST_PLACES + 1];
        private final int[][] ways = new int[MOST_PLACES + 1][MOST_ORDER];
        private int places = 0;

        void study(Group group, Row row) {
            places = row.length();
            for (int k = 0; k <= MOST_PLACES; k++) {
                made[0][k] = k == 0 ? 1 << NOUGHT : 0;
            }
            for (int i = 1; i <= places && i <= MOST_PLACES; i++) {
                made[i][0] = 1 << NOUGHT;
                for (int k = 1; k <= MOST_PLACES; k++) {
                    made[i][k] = made[i - 1][k] | group.moved(made[i - 1][k - 1], row.elementAt(i - 1));
                }
            }
        }

        private boolean makes(int i, int k, int g) {
            return i >= 0 && i <= MOST_PLACES && k >= 0 && k <= MOST_PLACES && Group.isIn(made[i][k], g);
        }

        boolean canMake(int g, int k) {
            return makes(places, k, g);
        }

        int allSums() {
            int result = 0;
            for (int k = 1; k <= places && k <= MOST_PLACES && places <= MOST_PLACES; k++) {
                result |= made[places][k];
            }
            return result;
        }

        boolean hasNought() {
            return Group.isIn(allSums(), NOUGHT);
        }

        /** Does a sub-row of fewer places than all make nought? */
        boolean hasLesserNought() {
            int k = fewestPlaces(NOUGHT);
            return k != NONE && k < places;
        }

        int fewestPlaces(int g) {
            for (int k = 1; k <= places; k++) {
                if (canMake(g, k)) {
                    return k;
                }
            }
            return NONE;
        }

        /** The set of k places of the least number that makes g; there must be one. */
        int leastSet(Group group, Row row, int g, int k) {
            int set = 0;
            int left = g;
            int count = k;
            for (int place = places - 1; place >= 0; place--) {
                // A set without a place is a lesser number than any that has it.
                if (!makes(place, count, left)) {
                    set |= 1 << place;
                    left = group.plus(left, group.opposite(row.elementAt(place)));
                    count--;
                }
            }
            return set;
        }

        void countWays(Group group, Row row) {
            for (int k = 0; k <= MOST_PLACES; k++) {
                for (int g = 0; g < MOST_ORDER; g++) {
                    ways[k][g] = 0;
                }
            }
            ways[0][NOUGHT] = 1;
            for (int place = 0; place < row.length() && place < MOST_PLACES; place++) {
                int element = row.elementAt(place);
                // From the most down, so that no place counts twice.
                for (int k = place + 1; k >= 1; k--) {
                    addWays(group, k, element);
                }
            }
        }

        private void addWays(Group group, int k, int element) {
            if (k < 1 || k > MOST_PLACES) {
                return;
            }
            for (int g = 0; g < group.order() && g < MOST_ORDER; g++) {
                int without = group.plus(g, group.opposite(element));
                if (group.has(without)) {
                    ways[k][g] += ways[k - 1][without];
                }
            }
        }

        /** How many make g by k places, or by however many (k 0). */
        int waysOf(int g, int k) {
            if (g < 0 || g >= MOST_ORDER || k < 0 || k > MOST_PLACES) {
                return 0;
            }
            if (k > 0) {
                return ways[k][g];
            }
            int result = 0;
            for (int i = 1; i <= MOST_PLACES; i++) {
                result += ways[i][g];
            }
            return result;
        }
    }

    /** What the rows make whose places are left, count, or count against. */
    private static final class Signs {
        private static final int LEFT = 0;
        private static final int COUNTS = 1;
        private static final int AGAINST = 2;

        private final int[] counts = new int[MOST_ORDER];
        private final int[] countsAhead = new int[MOST_ORDER];
        // What the places from one on make: in any way, and not all of them left (bits)
        private final int[] anyFrom = new int[MOST_PLACES + 1];
        private final int[] someFrom = new int[MOST_PLACES + 1];

        int countRows(Group group, Row row, int wanted) {
            for (int g = 0; g < MOST_ORDER; g++) {
                counts[g] = 0;
            }
            counts[NOUGHT] = 1;
            for (int place = 0; place < row.length() && place < MOST_PLACES; place++) {
                countPlace(group, row.elementAt(place));
            }
            int result = wanted >= 0 && wanted < MOST_ORDER ? counts[wanted] : 0;
            return wanted == NOUGHT ? result - 1 : result;
        }

        private void countPlace(Group group, int element) {
            for (int g = 0; g < MOST_ORDER; g++) {
                countsAhead[g] = counts[g];
            }
            int opposite = group.opposite(element);
            for (int g = 0; g < group.order() && g < MOST_ORDER; g++) {
                int more = group.plus(g, element);
                int less = group.plus(g, opposite);
                if (group.has(more) && group.has(less)) {
                    counts[g] = countsAhead[g] + countsAhead[more] + countsAhead[less];
                }
            }
        }

        /** Of the first row that makes g what a place is; NONE if none makes it. */
        int firstRowAt(Group group, Row row, int g, int place) {
            studyEnds(group, row);
            if (!Group.isIn(someFrom[0], g)) {
                return NONE;
            }
            int wanted = g;
            boolean allLeft = true;
            int sign = NONE;
            for (int i = 0; i <= place; i++) {
                sign = firstSign(group, row, i, wanted, allLeft);
                allLeft = allLeft && sign == LEFT;
                wanted = wantedBehind(group, row.elementAt(i), wanted, sign);
            }
            return sign;
        }

        private void studyEnds(Group group, Row row) {
            int places = Math.min(row.length(), MOST_PLACES);
            if (places < 0) {
                return;
            }
            anyFrom[places] = 1 << NOUGHT;
            someFrom[places] = 0;
            for (int i = places - 1; i >= 0; i--) {
                int element = row.elementAt(i);
                int withIt = group.moved(anyFrom[i + 1], element)
                        | group.moved(anyFrom[i + 1], group.opposite(element));
                anyFrom[i] = anyFrom[i + 1] | withIt;
                someFrom[i] = someFrom[i + 1] | withIt;
            }
        }

        private int firstSign(Group group, Row row, int place, int wanted, boolean allLeft) {
            if (place < 0 || place >= MOST_PLACES) {
                return NONE;
            }
            int element = row.elementAt(place);
            if (Group.isIn(allLeft ? someFrom[place + 1] : anyFrom[place + 1], wanted)) {
                return LEFT;
            }
            int behind = wantedBehind(group, element, wanted, COUNTS);
            return Group.isIn(anyFrom[place + 1], behind) ? COUNTS : AGAINST;
        }

        private static int wantedBehind(Group group, int element, int wanted, int sign) {
            if (sign == COUNTS) {
                return group.plus(wanted, group.opposite(element));
            }
            return sign == AGAINST ? group.plus(wanted, element) : wanted;
        }
    }

    /** A row of sum nought parted into atoms; tables over all sets of its places. */
    private static final class Parting {
        private static final int UNREACHED = 127;

        private final byte[] made = new byte[MOST_SETS];
        // The most sub-rows of sum nought, no place in two of them, that a set has
        private final byte[] most = new byte[MOST_SETS];
        // The fewest atoms that take all places away but those of a set
        private final byte[] taken = new byte[MOST_SETS];
        private final Row studied = new Row();
        private int studiedGroup = 0;
        private int whole = 0;

        int fewestAtoms() {
            return taken[0];
        }

        int mostAtoms() {
            return mostOf(whole);
        }

        void study(Group group, Row row) {
            if (group.code() == studiedGroup && studied.isSameAs(row)) {
                return;
            }
            studied.copyFrom(row);
            studiedGroup = group.code();
            whole = Math.min(row.wholeSet(), MOST_SETS - 1);
            for (int place = 0; place < row.length() && place < MOST_PLACES; place++) {
                fillSetsUpTo(group, place);
            }
            fillTaken();
        }

        private int madeBy(int set) {
            return set >= 0 && set < MOST_SETS ? made[set] : NONE;
        }

        private int mostOf(int set) {
            return set >= 0 && set < MOST_SETS ? most[set] : 0;
        }

        private boolean isAtom(int set) {
            return madeBy(set) == NOUGHT && mostOf(set) == 1;
        }

        /** The sets whose last place this is, when those of the places ahead are filled. */
        private void fillSetsUpTo(Group group, int place) {
            int bit = 1 << place;
            int element = studied.elementAt(place);
            for (int set = bit; set < 2 * bit && set < MOST_SETS; set++) {
                made[set] = (byte) group.plus(madeBy(set - bit), element);
                // With sum nought, what is left beside the most without one place has sum nought too.
                most[set] = (byte) (made[set] == NOUGHT ? mostOf(set - bit) + 1 : mostWithoutOne(set));
            }
        }

        private int mostWithoutOne(int set) {
            int result = 0;
            for (int place = 0; place < studied.length(); place++) {
                if ((set >>> place & 1) != 0) {
                    result = Math.max(result, mostOf(set ^ 1 << place));
                }
            }
            return result;
        }

        private void fillTaken() {
            for (int set = 0; set < MOST_SETS; set++) {
                taken[set] = (byte) UNREACHED;
            }
            if (whole < 0 || whole >= MOST_SETS) {
                return;
            }
            taken[whole] = 0;
            for (int left = whole; left > 0 && left < MOST_SETS; left--) {
                if (taken[left] != UNREACHED && hasLastOfEach(left)) {
                    takeAtoms(left);
                }
            }
        }

        /** Of places with one element it is all one which go: so the first go first. */
        private boolean hasLastOfEach(int left) {
            for (int place = 0; place < studied.length(); place++) {
                if ((left >>> place & 1) != 0) {
                    for (int other = place + 1; other < studied.length(); other++) {
                        if ((left >>> other & 1) == 0 && studied.elementAt(other) == studied.elementAt(place)) {
                            return false;
                        }
                    }
                }
            }
            return true;
        }

        private void takeAtoms(int left) {
            int first = left & -left;
            int others = left ^ first;
            int rest = 0;
            for (int i = 0; i < MOST_SETS; i++) {
                int behind = left ^ (rest | first);
                if (isAtom(rest | first) && behind >= 0 && behind < left && left < MOST_SETS) {
                    taken[behind] = (byte) Math.min(taken[behind], taken[left] + 1);
                }
                if (rest == others) {
                    return;
                }
                rest = nextSet(rest, others);
            }
        }

        /** Of the sets within another one the next by number. */
        private static int nextSet(int set, int within) {
            return (set - within) & within;
        }

        int atomOfMost(int i) {
            int left = whole;
            int atom = NONE;
            for (int n = 0; n <= i && left > 0; n++) {
                atom = leastAtomOfMost(left);
                left ^= atom;
            }
            return atom;
        }

        private int leastAtomOfMost(int left) {
            int first = left & -left;
            int others = left ^ first;
            int rest = 0;
            for (int i = 0; i < MOST_SETS; i++) {
                int set = rest | first;
                if (madeBy(set) == NOUGHT && mostOf(left ^ set) + 1 == mostOf(left)) {
                    return set;
                }
                if (rest == others) {
                    return left;
                }
                rest = nextSet(rest, others);
            }
            return left;
        }
    }

    /** The free multisets of a group: how many there are of each length, and the first longest. */
    private static final class Multisets {
        private final int[] counts = new int[MOST_PLACES + 1];
        private final Row grown = new Row();
        private final Row first = new Row();
        private int studiedGroup = 0;

        void study(Group group) {
            if (group.code() == studiedGroup) {
                return;
            }
            studiedGroup = group.code();
            for (int n = 0; n <= MOST_PLACES; n++) {
                counts[n] = 0;
            }
            grown.clear();
            first.clear();
            grow(this, group, 0, 1, 0);
        }

        int howManyOf(int n) {
            return n >= 0 && n <= MOST_PLACES ? counts[n] : 0;
        }

        Row firstLongest() {
            return first;
        }

        /** Counts the grown row (of so many places and these sums) and all that begin with it. */
        private static void grow(Multisets all, Group group, int places, int from, int sums) {
            if (places < 0 || places > MOST_PLACES) {
                return;
            }
            all.counts[places]++;
            if (places > all.first.length()) {
                all.first.copyFrom(all.grown);
            }
            for (int g = from; g < group.order() && places < MOST_PLACES; g++) {
                if (!Group.isIn(sums, group.opposite(g))) {
                    all.grown.append(g);
                    grow(all, group, places + 1, g, sums | 1 << g | group.moved(sums, g));
                    all.grown.remove(places);
                }
            }
        }
    }

    /** The rows as they were ahead of the latest acts; the oldest is lost when one too many comes. */
    private static final class Past {
        private final Row[] rows = new Row[MOST_UNDONE];
        private int next = 0;
        private int length = 0;

        Past() {
            for (int i = 0; i < rows.length; i++) {
                rows[i] = new Row();
            }
        }

        int length() {
            return length;
        }

        void forget() {
            length = 0;
        }

        void keep(Row row) {
            Row kept = rowAt(next);
            if (kept == null) {
                return;
            }
            kept.copyFrom(row);
            next = next + 1 < MOST_UNDONE ? next + 1 : 0;
            length = Math.min(length + 1, MOST_UNDONE);
        }

        void takeBack(Row row) {
            int latest = next > 0 ? next - 1 : MOST_UNDONE - 1;
            Row kept = rowAt(latest);
            if (length < 1 || kept == null) {
                return;
            }
            row.copyFrom(kept);
            next = latest;
            length--;
        }

        private Row rowAt(int i) {
            return i >= 0 && i < rows.length ? rows[i] : null;
        }
    }

    /** A group and a row as they were kept. */
    private static final class Image {
        private final Row row = new Row();
        private int groupCode = 0;
        private boolean kept = false;

        boolean isKept() {
            return kept;
        }

        void keep(Group group, Row from) {
            kept = true;
            groupCode = group.code();
            row.copyFrom(from);
        }

        void giveBack(Group group, Row to) {
            group.become(groupCode);
            to.copyFrom(row);
        }
    }
}
