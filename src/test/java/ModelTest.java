import java.util.NoSuchElementException;
import java.util.Random;

/** Runs of calls drawn by fixed seeds, each answer held against the Model's. */
public final class ModelTest {
    private static final int[][] GROUPS = {{2}, {3}, {4}, {5}, {6}, {7}, {8}, {9}, {10}, {11}, {12}, {13}, {17},
        {20}, {23}, {24}, {2, 2}, {2, 3}, {3, 2}, {2, 4}, {4, 2}, {3, 3}, {2, 6}, {6, 2}, {3, 4}, {4, 3}, {2, 5},
        {4, 4}, {3, 6}, {12, 2}, {2, 12}, {4, 6}, {2, 2, 2}, {2, 2, 3}, {2, 3, 2}, {2, 2, 4}, {2, 2, 5}, {2, 2, 6},
        {3, 2, 4}, {6, 2, 2}, {2, 3, 3}};

    private final Tester t;
    private final Random random;
    private NoughtSums x;
    private Model m;

    private ModelTest(Tester t, long seed) {
        this.t = t;
        random = new Random(seed);
    }

    public static void main(String[] args) {
        Tester t = new Tester();
        new ModelTest(t, 11).texts(8000);
        ModelTest runs = new ModelTest(t, 12);
        for (int i = 0; i < 100; i++) {
            runs.callsOfOneObject(i);
        }
        new ModelTest(t, 13).allGroups();
        t.finish();
    }

    // ---- texts

    private static String groupRow(int[] parts) {
        StringBuilder s = new StringBuilder("group");
        for (int p : parts) {
            s.append(' ').append(p);
        }
        return s.append(";").toString();
    }

    private String randomText() {
        int[] parts = GROUPS[random.nextInt(GROUPS.length)];
        StringBuilder s = new StringBuilder(groupRow(parts));
        int rows = random.nextInt(random.nextBoolean() ? 4 : 16);
        int places = 0;
        for (int r = 0; r < rows; r++) {
            int times = random.nextInt(3) == 0 ? 1 + random.nextInt(6) : 1;
            if (places + times > 12 && random.nextInt(8) > 0) {
                break;
            }
            places += times;
            blanks(s);
            s.append("put");
            for (int p : parts) {
                s.append(random.nextInt(12) == 0 ? " 0" : " ").append(random.nextInt(p));
                blanks(s);
            }
            if (times > 1 || random.nextInt(9) == 0) {
                s.append(" times ").append(times);
                blanks(s);
            }
            s.append(';');
        }
        blanks(s);
        return s.toString();
    }

    private void blanks(StringBuilder s) {
        while (random.nextInt(3) == 0) {
            s.append(random.nextInt(3) == 0 ? '\n' : ' ');
        }
    }

    private static final String[] BITS = {";", " ", "\n", "put", "group", "times", "0", "1", "2", "9", "13", "24", "25",
        "put 1;", "a", "A", "times 12", "times 0", ";;", "\t", "\u00ff", "\u0000", " 3", "123", "1a", "-"};

    private String mangled(String text) {
        StringBuilder s = new StringBuilder(text);
        int changes = random.nextInt(4);
        for (int i = 0; i < changes; i++) {
            int at = random.nextInt(s.length() + 1);
            if (random.nextInt(3) == 0 && at < s.length()) {
                s.deleteCharAt(at);
            } else {
                s.insert(at, BITS[random.nextInt(BITS.length)]);
            }
        }
        if (random.nextInt(6) == 0) {
            // Over the limit, by blanks in the midst, so that tokens lie across it.
            int at = random.nextInt(s.length() + 1);
            int more = 285 + random.nextInt(56) - s.length();
            for (int i = 0; i < more; i++) {
                s.insert(at, ' ');
            }
        }
        return s.length() > 340 ? s.substring(0, 340) : s.toString();
    }

    private void readBoth(String text) {
        Tester.put(x, text);
        Tester.put(m, text);
        String shown = "text of " + text.replace('\n', '|');
        t.due(shown + " tape", m.now(6), x.now(6));
        t.due(shown, m.text(), x.text());
        t.due(shown + " fault(0)", m.fault(0), x.fault(0));
        t.due(shown + " fault(1)", m.fault(1), x.fault(1));
        for (int what = 0; what < 7; what++) {
            t.due(shown + " now(" + what + ")", m.now(what), x.now(what));
        }
    }

    private void texts(int n) {
        x = new NoughtSums();
        m = new Model();
        for (int i = 0; i < n; i++) {
            readBoth(mangled(randomText()));
            for (int place = 0; place < 12; place++) {
                t.due("at", m.at(place), x.at(place));
            }
        }
    }

    // ---- runs of calls

    private int element() {
        int order = m.order();
        return random.nextInt(12) == 0 ? random.nextInt(28) - 2 : order == 0 ? 0 : random.nextInt(order);
    }

    private int place() {
        int n = m.now(3);
        return random.nextInt(12) == 0 ? random.nextInt(16) - 2 : n == 0 ? 0 : random.nextInt(n);
    }

    private int what() {
        return random.nextInt(10) == 0 ? random.nextInt(6) - 2 : random.nextInt(3);
    }

    private void callsOfOneObject(int run) {
        x = new NoughtSums();
        m = new Model();
        if (run % 10 != 0) {
            readBoth(randomText());
        }
        for (int i = 0; i < 300; i++) {
            String where = "run " + run + " call " + i + " at " + m + ": ";
            switch (random.nextInt(3)) {
                case 0 -> act(where);
                case 1 -> askSubRows(where);
                default -> askMore(where);
            }
            t.due(where + "undoable", m.now(5), x.now(5));
            t.due(where + "places", m.now(3), x.now(3));
        }
    }

    private void act(String where) {
        int k = random.nextInt(4) - 1;
        int n = random.nextInt(9) == 0 ? random.nextInt(65) - 2 : 1 + random.nextInt(8);
        int seed = random.nextInt();
        int u = random.nextInt(28) - 1;
        int g = element();
        int p = place();
        switch (random.nextInt(16)) {
            case 0, 1, 2, 3 -> t.due(where + "come(" + g + ")", m.come(g), x.come(g));
            case 4, 5 -> t.due(where + "go(" + p + ")", m.go(p), x.go(p));
            case 6, 7 -> t.due(where + "times(" + u + ")", m.times(u), x.times(u));
            case 8 -> t.due(where + "sort()", m.sort(), x.sort());
            case 9, 10 -> t.due(where + "drawn(" + n + ", " + seed + ")", m.drawn(n, seed), x.drawn(n, seed));
            case 11, 12 -> t.due(where + "undo()", m.undo(), x.undo());
            case 13 -> t.due(where + "image(" + k + ")", m.image(k), x.image(k));
            case 14 -> t.due(where + "restore(" + k + ")", m.restore(k), x.restore(k));
            default -> {
                if (random.nextInt(3) == 0) {
                    readBoth(random.nextInt(3) == 0 ? mangled(randomText()) : randomText());
                } else {
                    // Makes sum nought more common, and with it what only then is told.
                    int back = m.now(4) <= 0 ? 0 : x.found(m.now(4), 1);
                    int last = back <= 0 ? 0 : Integer.numberOfTrailingZeros(back);
                    t.due(where + "go(" + last + ")", m.go(last), x.go(last));
                }
            }
        }
        for (int i = -1; i < 13; i++) {
            t.due(where + "at(" + i + ") behind it", m.at(i), x.at(i));
        }
    }

    private void askSubRows(String where) {
        int g = element();
        int k = place();
        int w = what();
        int set = random.nextInt(10) == 0 ? random.nextInt() : random.nextInt(1 << Math.max(0, m.now(3)));
        switch (random.nextInt(7)) {
            case 0 -> t.due(where + "sum(" + set + ")", modelSum(set), Tester.sum(x, set));
            case 1 -> t.due(where + "sums()", m.sums(), x.sums());
            case 2 -> t.due(where + "found(" + g + ", " + w + ")", m.found(g, w), x.found(g, w));
            case 3 -> t.due(where + "ways(" + g + ", " + k + ")", m.ways(g, k), x.ways(g, k));
            case 4 -> t.due(where + "exactly(" + g + ", " + k + ")", m.exactly(g, k), x.exactly(g, k));
            case 5 -> t.due(where + "run(" + g + ", " + w + ")", m.run(g, w), x.run(g, w));
            default -> t.due(where + "free(" + w + ")", m.free(w), x.free(w));
        }
    }

    private int modelSum(int set) {
        try {
            return m.sum(set);
        } catch (NoSuchElementException e) {
            return Tester.THROWS;
        }
    }

    private void askMore(String where) {
        int g = element();
        int p = place();
        int w = what();
        int b = element();
        switch (random.nextInt(10)) {
            case 0 -> t.due(where + "atoms(" + w + ")", m.atoms(w), x.atoms(w));
            case 1 -> t.due(where + "atom(" + w + ")", m.atom(w), x.atom(w));
            case 2 -> {
                if (m.now(3) <= 8 || random.nextInt(30) == 0) {
                    t.due(where + "signed(" + g + ")", m.signed(g), x.signed(g));
                }
            }
            case 3 -> t.due(where + "sign(" + g + ", " + p + ")", m.now(3) > 9 ? x.sign(g, p) : m.sign(g, p),
                x.sign(g, p));
            case 4 -> t.due(where + "like(" + p + ")", m.like(p), x.like(p));
            case 5 -> t.due(where + "frees(" + p + ")", m.frees(p), x.frees(p));
            case 6 -> t.due(where + "longest()", m.longest(), x.longest());
            case 7 -> t.due(where + "longestAt(" + p + ")", m.longestAt(p), x.longestAt(p));
            case 8 -> t.due(where + "add(" + g + ", " + b + ")", m.add(g, b), x.add(g, b));
            default -> t.due(where + "part(" + w + ")", m.part(w), x.part(w));
        }
    }

    // ---- each group there is

    private void allGroups() {
        for (int a = 2; a <= 24; a++) {
            oneGroup(new int[] {a});
            for (int b = 2; a * b <= 24; b++) {
                oneGroup(new int[] {a, b});
                for (int c = 2; a * b * c <= 24; c++) {
                    oneGroup(new int[] {a, b, c});
                }
            }
        }
    }

    private void oneGroup(int[] parts) {
        x = new NoughtSums();
        m = new Model();
        String where = groupRow(parts) + " ";
        readBoth(groupRow(parts));
        for (int what = 0; what < 4; what++) {
            t.due(where + "now(" + what + ")", m.now(what), x.now(what));
            t.due(where + "part(" + what + ")", m.part(what), x.part(what));
        }
        for (int g = -1; g < 25; g++) {
            t.due(where + "add", m.add(g, 1), x.add(g, 1));
            t.due(where + "add", m.add(m.order() - 1, g), x.add(m.order() - 1, g));
        }
        t.due(where + "enough()", m.enough(), x.enough());
        t.due(where + "longest()", m.longest(), x.longest());
        for (int n = -1; n < 14; n++) {
            t.due(where + "frees(" + n + ")", m.frees(n), x.frees(n));
            t.due(where + "longestAt(" + n + ")", m.longestAt(n), x.longestAt(n));
        }
        for (int i = 0; i < 3; i++) {
            int seed = random.nextInt();
            t.due(where + "drawn(40, " + seed + ")", m.drawn(40, seed), x.drawn(40, seed));
            int left = m.now(4) <= 0 ? 0 : m.now(4);
            for (int g = 0; g < m.order() && left != 0; g++) {
                if (m.add(left, g) == 0 && m.come(g) != Model.NONE) {
                    x.come(g);
                    break;
                }
            }
            askOneRow(where + m + " ");
        }
    }

    private void askOneRow(String where) {
        for (int w = -1; w < 4; w++) {
            t.due(where + "atoms(" + w + ")", m.atoms(w), x.atoms(w));
            t.due(where + "free(" + w + ")", m.free(w), x.free(w));
        }
        for (int p = -1; p < 13; p++) {
            t.due(where + "atom(" + p + ")", m.atom(p), x.atom(p));
            t.due(where + "like(" + p + ")", m.like(p), x.like(p));
        }
        t.due(where + "sums()", m.sums(), x.sums());
        for (int g = -1; g <= m.order(); g++) {
            for (int w = -1; w < 3; w++) {
                t.due(where + "found(" + g + ", " + w + ")", m.found(g, w), x.found(g, w));
                t.due(where + "run(" + g + ", " + w + ")", m.run(g, w), x.run(g, w));
            }
            for (int k = -1; k <= m.now(3) + 1; k++) {
                t.due(where + "ways(" + g + ", " + k + ")", m.ways(g, k), x.ways(g, k));
                t.due(where + "exactly(" + g + ", " + k + ")", m.exactly(g, k), x.exactly(g, k));
            }
            if (m.now(3) <= 7) {
                t.due(where + "signed(" + g + ")", m.signed(g), x.signed(g));
                for (int p = -1; p <= m.now(3); p++) {
                    t.due(where + "sign(" + g + ", " + p + ")", m.sign(g, p), x.sign(g, p));
                }
            }
        }
    }
}
