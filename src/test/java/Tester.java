import java.util.NoSuchElementException;

/** What the tests share: texts put on a tape, answers compared and counted. */
final class Tester {
    static final int THROWS = Integer.MIN_VALUE;

    private int wrong = 0;
    private int asked = 0;

    void due(String call, long want, long got) {
        asked++;
        if (want != got) {
            wrong++;
            if (wrong <= 50) {
                System.out.println(call + " answered " + got + ", due is " + want);
            }
        }
    }

    void due(String call, boolean want, boolean got) {
        due(call, want ? 1 : 0, got ? 1 : 0);
    }

    /** Tells the result; ends with exit code 1 if an answer was wrong. */
    void finish() {
        System.out.println(asked + " answers, " + wrong + " not as due");
        if (wrong > 0 || asked == 0) {
            System.exit(1);
        }
    }

    static int sum(NoughtSums x, int set) {
        try {
            return x.sum(set);
        } catch (NoSuchElementException e) {
            return THROWS;
        }
    }

    /** The numbers that feed() takes for a text: five for twenty bytes. */
    static int[][] numbersOf(String text) {
        int[][] all = new int[(text.length() + 19) / 20][5];
        for (int i = 0; i < 20 * all.length; i++) {
            int b = i < text.length() ? text.charAt(i) & 255 : 0;
            all[i / 20][i % 20 / 4] = all[i / 20][i % 20 / 4] << 8 | b;
        }
        return all;
    }

    /** Puts a text of up to 340 bytes on an empty tape. */
    static void put(NoughtSums x, String text) {
        x.end(0);
        for (int[] v : numbersOf(text)) {
            x.feed(v[0], v[1], v[2], v[3], v[4]);
        }
        x.end(text.length());
    }

    static void put(Model m, String text) {
        m.end(0);
        for (int[] v : numbersOf(text)) {
            m.feed(v[0], v[1], v[2], v[3], v[4]);
        }
        m.end(text.length());
    }

    static int read(NoughtSums x, String text) {
        put(x, text);
        return x.text();
    }

    static NoughtSums of(String text) {
        NoughtSums x = new NoughtSums();
        if (read(x, text) < 0) {
            throw new IllegalStateException("a test's text has a fault: " + text);
        }
        return x;
    }
}
