import java.util.NoSuchElementException;

/** What the tests share: texts put on a tape, answers compared and counted, by sentence of the document. */
final class Tester {
    static final int THROWS = Integer.MIN_VALUE;
    private static final int MOST_TOLD = 50;

    private int wrong = 0;
    private int asked = 0;
    private String sentence = "";
    private int sentences = 0;
    private int askedAhead = 0;

    /** What is due from here on is the test of this sentence of the document. */
    void sentence(String where, String words) {
        endSentence();
        sentence = where + ", '" + words + "': ";
        sentences++;
        askedAhead = asked;
    }

    private void endSentence() {
        if (sentences > 0 && asked == askedAhead) {
            due("has a test", true, false);
        }
    }

    void due(String call, long want, long got) {
        due(call, Long.toString(want), Long.toString(got));
    }

    void due(String call, boolean want, boolean got) {
        due(call, Boolean.toString(want), Boolean.toString(got));
    }

    void due(String call, String want, String got) {
        asked++;
        if (!want.equals(got)) {
            wrong++;
            if (wrong <= MOST_TOLD) {
                System.out.println(sentence + call + " answered " + got + ", due is " + want);
            }
        }
    }

    /** The row's elements, and that there are no more. */
    void row(String call, NoughtSums x, int... elements) {
        due(call + " places", elements.length, x.now(3));
        for (int i = 0; i < elements.length; i++) {
            due(call + " at(" + i + ")", elements[i], x.at(i));
        }
        due(call + " at(" + elements.length + ")", NoughtSums.NONE, x.at(elements.length));
    }

    /** Tells the result; ends with exit code 1 if an answer was wrong. */
    void finish() {
        endSentence();
        System.out.println((sentences > 0 ? sentences + " sentences, " : "") + asked + " answers, " + wrong
            + " not as due");
        if (wrong > 0 || asked == 0) {
            System.exit(1);
        }
    }

    static int sum(NoughtSums x, int set) {
        try {
            return x.sum(set);
        } catch (NoSuchElementException e) {
            return THROWS;
        }
    }

    /** The numbers that feed() takes for a text: five for twenty bytes. */
    static int[][] numbersOf(String text) {
        int[][] all = new int[(text.length() + 19) / 20][5];
        for (int i = 0; i < 20 * all.length; i++) {
            int b = i < text.length() ? text.charAt(i) & 255 : 0;
            all[i / 20][i % 20 / 4] = all[i / 20][i % 20 / 4] << 8 | b;
        }
        return all;
    }

    /** Puts a text of up to 340 bytes on an empty tape. */
    static void put(NoughtSums x, String text) {
        x.end(0);
        for (int[] v : numbersOf(text)) {
            x.feed(v[0], v[1], v[2], v[3], v[4]);
        }
        x.end(text.length());
    }

    static void put(Model m, String text) {
        m.end(0);
        for (int[] v : numbersOf(text)) {
            m.feed(v[0], v[1], v[2], v[3], v[4]);
        }
        m.end(text.length());
    }

    static int read(NoughtSums x, String text) {
        put(x, text);
        return x.text();
    }

    static NoughtSums of(String text) {
        NoughtSums x = new NoughtSums();
        if (read(x, text) < 0) {
            throw new IllegalStateException("a test's text has a fault: " + text);
        }
        return x;
    }
}
