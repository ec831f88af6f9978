import java.util.function.Supplier;

/** Each sentence of the document on acts and images (Terms 2, promises 26 to 33) that names a boundary. */
public final class BoundaryActsTest {
    private static final int NONE = NoughtSums.NONE;
    private static final int CALLS = 512;
    private static final int[] FAR = {Integer.MIN_VALUE, Integer.MIN_VALUE + 1, -257, -33, -32, -2, -1, 4609, 1 << 30,
        Integer.MAX_VALUE};
    private static final Tester T = new Tester();

    public static void main(String[] args) {
        come();
        go();
        times();
        sort();
        drawnOrNot();
        drawnDeeds();
        undone();
        undoneActs();
        image();
        restore();
        refusedCalls();
        lastCalls();
        T.finish();
    }

    private static String refusedAt(Supplier<NoughtSums> made) {
        return " at " + States.told(made.get());
    }

    // ---- promises 26 and 27

    private static void refusedCome(Supplier<NoughtSums> made, int g) {
        States.unchanged(T, "come(" + g + ")" + refusedAt(made), made, x -> T.due("come(" + g + ")", NONE, x.come(g)));
    }

    private static void come() {
        T.sentence("promise 26", "An ELEMENT comes behind all PLACES: how many there are");
        NoughtSums x = Tester.of("group 2 3 4;");
        T.due("the first", 1, x.come(23));
        T.due("the second", 2, x.come(0));
        T.row("two came", x, 23, 0);
        for (int n = 3; n <= 12; n++) {
            T.due("come", n, x.come(n));
        }
        T.row("twelve came", x, 23, 0, 3, 4, 5, 6, 7, 8, 9, 10, 11, 12);
        T.sentence("promise 26", "NONE: no such one, there are 12.");
        for (int g = 0; g < 24; g++) {
            T.due("a 13th", NONE, x.come(g));
        }
        T.row("twelve still", x, 23, 0, 3, 4, 5, 6, 7, 8, 9, 10, 11, 12);
        x.go(0);
        T.due("a 12th again", 12, x.come(1));
        T.due("no 13th again", NONE, x.come(1));
        for (int g : FAR) {
            refusedCome(States::midway, g);
        }
        for (int g = -1; g < 3; g++) {
            refusedCome(NoughtSums::new, g);
            refusedCome(States::full, g);
        }
        refusedCome(States::bare, 6);
        refusedCome(States::bare, 7);
        refusedCome(States::bare, 38);
        refusedCome(States::midway, 8);
        refusedCome(() -> Tester.of("group 24;"), 24);
    }

    private static void refusedGo(Supplier<NoughtSums> made, int place) {
        States.unchanged(T, "go(" + place + ")" + refusedAt(made), made,
            x -> T.due("go(" + place + ")", NONE, x.go(place)));
    }

    private static void go() {
        T.sentence("promise 27", "A PLACE goes (those behind it are one less): how many are left");
        NoughtSums x = Tester.of("group 24;put 1;put 2;put 3;put 4;put 5;");
        T.due("the last", 4, x.go(4));
        T.row("the last went", x, 1, 2, 3, 4);
        T.due("the first", 3, x.go(0));
        T.row("the first went", x, 2, 3, 4);
        T.due("one in the midst", 2, x.go(1));
        T.row("one in the midst went", x, 2, 4);
        T.due("the last but one", 1, x.go(1));
        T.due("the only one", 0, x.go(0));
        T.row("all went", x);
        x = Tester.of("group 24;put 23;put 0 times 10;put 7;");
        T.due("the last of 12", 11, x.go(11));
        T.row("the last of 12 went", x, 23, 0, 0, 0, 0, 0, 0, 0, 0, 0, 0);
        T.due("the first of 11", 10, x.go(0));
        T.sentence("promise 27", "NONE: none such.");
        for (int place : FAR) {
            refusedGo(States::midway, place);
        }
        refusedGo(NoughtSums::new, 0);
        refusedGo(States::bare, 0);
        refusedGo(States::midway, 3);
        refusedGo(States::midway, 4);
        refusedGo(States::full, 12);
        refusedGo(States::full, 13);
        refusedGo(States::full, -1);
    }

    // ---- promises 28 and 29

    private static void refusedTimes(Supplier<NoughtSums> made, int u) {
        States.unchanged(T, "times(" + u + ")" + refusedAt(made), made,
            x -> T.due("times(" + u + ")", NONE, x.times(u)));
    }

    private static void times() {
        T.sentence("promise 28", "Each ELEMENT is MULTIPLIED (PART by PART) by u (1 to 24): SUM of all then");
        T.due("by 1", 3, Tester.of("group 7;put 1;put 2;").times(1));
        T.due("by 24", 4, Tester.of("group 5;put 4;put 2;").times(24));
        T.due("by 24 of nought", 0, Tester.of("group 5;put 0;").times(24));
        T.due("by 23 in 24", 1, Tester.of("group 24;put 23;").times(23));
        T.due("above exponent", 2, Tester.of("group 3;put 2;").times(4));
        NoughtSums x = Tester.of("group 2 3 4;put 1 2 3;put 0 2 1;put 1 0 2;");
        T.due("part by part", 10, x.times(5));
        T.row("part by part", x, 19, 5, 14);
        x = Tester.of("group 24;put 23 times 12;");
        T.due("of 12", 12, x.times(23));
        T.row("of 12", x, 1, 1, 1, 1, 1, 1, 1, 1, 1, 1, 1, 1);
        T.sentence("promise 28", "NONE: no PLACES, u has something in common with EXPONENT, no such u.");
        for (int u : FAR) {
            refusedTimes(States::midway, u);
        }
        for (int u = -1; u <= 26; u++) {
            refusedTimes(NoughtSums::new, u);
            refusedTimes(States::bare, u);
        }
        // 25 and 0 - 1 have nothing in common with 4, 24, 13: they are refused for themselves.
        for (int u : new int[] {-1, 0, 2, 4, 6, 8, 10, 12, 14, 16, 18, 20, 22, 24, 25, 27}) {
            refusedTimes(States::midway, u);
        }
        for (int u : new int[] {-1, 0, 2, 3, 4, 6, 8, 9, 10, 12, 14, 15, 16, 18, 20, 21, 22, 24, 25, 29}) {
            refusedTimes(States::full, u);
        }
        refusedTimes(() -> Tester.of("group 13;put 1;"), 13);
        refusedTimes(() -> Tester.of("group 23;put 1;"), 23);
        refusedTimes(() -> Tester.of("group 3;put 1;"), 24);
        refusedTimes(() -> Tester.of("group 2 3;put 0 1;"), 2);
        refusedTimes(() -> Tester.of("group 2 3;put 1 0;"), 3);
    }

    private static void sort() {
        T.sentence("promise 29", "how many stand elsewhere (the ELEMENT at a PLACE is another one)");
        T.due("without a group", 0, new NoughtSums().sort());
        T.due("of no places", 0, Tester.of("group 9;").sort());
        T.due("of one", 0, Tester.of("group 9;put 8;").sort());
        T.due("in order", 0, Tester.of("group 9;put 0;put 3;put 8;").sort());
        T.due("like ones", 0, Tester.of("group 9;put 8 times 12;").sort());
        T.due("two like ones change", 2, Tester.of("group 9;put 8;put 8;put 1;").sort());
        NoughtSums x = Tester.of("group 9;put 8;put 4;put 1;");
        T.due("the midst stays", 2, x.sort());
        T.row("the midst stays", x, 1, 4, 8);
        x = Tester.of("group 24;put 23;put 22;put 21;put 20;put 19;put 18;put 17;put 16;put 15;put 14;put 13;put 0;");
        T.due("all 12 the other way", 12, x.sort());
        T.row("all 12 the other way", x, 0, 13, 14, 15, 16, 17, 18, 19, 20, 21, 22, 23);
        x = Tester.of("group 24;put 1 times 11;put 0;");
        T.due("the last to the first", 2, x.sort());
        T.row("the last to the first", x, 0, 1, 1, 1, 1, 1, 1, 1, 1, 1, 1, 1);
    }

    // ---- promise 30

    private static void refusedDrawn(Supplier<NoughtSums> made, int n, int seed) {
        States.unchanged(T, "drawn(" + n + ", " + seed + ")" + refusedAt(made), made,
            x -> T.due("drawn(" + n + ", " + seed + ")", NONE, x.drawn(n, seed)));
    }

    private static void deeds(String text, int n, int seed, int done, int... row) {
        NoughtSums x = Tester.of(text);
        String call = "drawn(" + n + ", " + seed + ") of " + text;
        T.due(call, done, x.drawn(n, seed));
        T.row(call, x, row);
        T.due(call + " acts", done > 0 ? 1 : 0, x.now(5));
    }

    private static void drawnOrNot() {
        T.sentence("promise 30", "n (1 to 60) DEEDS DRAWN by a seed: how many were done; NONE: not as told.");
        deeds("group 24;", 1, 70, 1, 23);
        deeds("group 2 6;put 1 1;", 60, 1, 45, 2, 1, 8, 7, 4, 2, 7, 3, 6, 7, 8, 4);
        deeds("group 2 6;put 1 1;", 60, 5, 52, 7, 10, 6, 1, 3, 6, 2, 8, 10);
        for (int n : new int[] {0, -1, -60, 61, 62, Integer.MIN_VALUE, Integer.MAX_VALUE}) {
            for (int i = 0; i < States.ALL.size(); i++) {
                refusedDrawn(States.ALL.get(i), n, 1);
            }
        }
    }

    /** The rows due were worked out by a program of its own, in another language, from the document. */
    private static void drawnDeeds() {
        T.sentence("Terms 2", "(an int, wrapping), the draw is (s >>> 8) % n");
        deeds("group 24;put 1;put 2;put 3;", 5, 0, 4, 2, 3, 4, 4, 15);
        deeds("group 24;put 1;put 2;put 3;", 5, -1, 5, 13, 2, 15, 21, 20, 15, 8);
        deeds("group 24;put 1;put 2;put 3;", 5, Integer.MAX_VALUE, 4, 1, 2, 3, 13, 12, 7, 16);
        deeds("group 24;put 1;put 2;put 3;", 5, Integer.MIN_VALUE, 4, 1, 3, 20, 20, 7);
        T.sentence("Terms 2", "0: a draw of PLACES: that one goes (none: no draw, nothing)");
        deeds("group 24;put 1;put 2;put 3;", 1, 0, 1, 2, 3);
        deeds("group 24;put 1;put 2;put 3;", 1, 10, 1, 1, 2);
        deeds("group 7;put 3;", 2, 23, 1);
        deeds("group 7;", 2, 0, 1, 4);
        deeds("group 7;", 2, 10, 1, 3);
        deeds("group 7;", 1, 0, 0);
        T.sentence("Terms 2", "1: a draw of EXPONENT (and 1): MULTIPLIED by that (as by times())");
        deeds("group 7;put 3;", 1, 2, 1, 3);
        deeds("group 7;put 3;", 1, 7, 1, 4);
        deeds("group 7;put 3;", 1, 126, 0, 3);
        deeds("group 24;put 5;", 1, 27, 0, 5);
        deeds("group 24;put 5;", 1, 73, 1, 19);
        deeds("group 2 6;put 1 5;put 0 4;", 1, 45, 1, 7, 2);
        T.sentence("Terms 2", "else a draw of ORDER: that ELEMENT comes");
        deeds("group 7;", 1, 1, 1, 0);
        deeds("group 24;", 1, 80, 1, 23);
        T.sentence("Terms 2", "What can't be is left");
        deeds("group 7;", 2, 4, 1, 4);
        deeds("group 7;", 2, 17, 1, 3);
        deeds("group 24;put 1;put 2;put 3;put 4;put 5;put 6;put 7;put 8;put 9;put 10;put 11;put 12;", 2, 1, 1,
            1, 2, 3, 4, 5, 6, 7, 8, 9, 10, 11);
        deeds("group 24;put 1;put 2;put 3;put 4;put 5;put 6;put 7;put 8;put 9;put 10;put 11;", 2, 9, 1,
            1, 2, 3, 4, 5, 6, 7, 8, 9, 10, 11, 12);
        T.sentence("Terms 2", "(without a GROUP: no more draws of that DEED)");
        for (int seed = 0; seed < 40; seed++) {
            int s = seed;
            States.unchanged(T, "drawn(60, " + s + ")", NoughtSums::new, x -> T.due("drawn", 0, x.drawn(60, s)));
        }
    }

    // ---- promise 31

    private static void undone() {
        T.sentence("promise 31", "how many more can be (8 at most are kept)");
        NoughtSums x = Tester.of("group 24;");
        for (int n = 1; n <= 12; n++) {
            x.come(n);
            T.due("acts", Math.min(n, 8), x.now(5));
        }
        for (int n = 7; n >= 0; n--) {
            T.due("undo", n, x.undo());
            T.due("acts", n, x.now(5));
        }
        T.row("what 8 leave", x, 1, 2, 3, 4);
        T.due("a ninth", NONE, x.undo());
        T.row("still", x, 1, 2, 3, 4);
        x.come(9);
        T.due("one again", 0, x.undo());
        for (int n = 1; n <= 8; n++) {
            x.come(n);
        }
        T.row("full by 8", x, 1, 2, 3, 4, 1, 2, 3, 4, 5, 6, 7, 8);
        for (int n = 7; n >= 0; n--) {
            T.due("undo of 8", n, x.undo());
        }
        T.row("all 8 undone", x, 1, 2, 3, 4);
        T.sentence("promise 31", "NONE: none is.");
        for (Supplier<NoughtSums> made : States.ALL) {
            NoughtSums y = made.get();
            for (int n = y.now(5); n > 0; n--) {
                T.due("undo", n - 1, y.undo());
            }
            String told = States.told(y);
            for (int i = 0; i < 9; i++) {
                T.due("undo of none", NONE, y.undo());
            }
            T.due("undo of none changes nothing", told, States.told(y));
        }
        States.unchanged(T, "undo() of none", States::bare, y -> T.due("undo", NONE, y.undo()));
        States.unchanged(T, "undo() of none", NoughtSums::new, y -> T.due("undo", NONE, y.undo()));
    }

    private static void undoneActs() {
        T.sentence("promise 31", "The latest come(), go(), times() that was not NONE, sort(), drawn() above 0 is undone");
        NoughtSums x = Tester.of("group 7;put 3;put 1;");
        x.come(0);
        x.go(0);
        x.times(6);
        x.times(1);
        T.due("sort() of some", 2, x.sort());
        T.due("drawn() of some", 1, x.drawn(1, 0));
        T.due("six acts", 6, x.now(5));
        T.row("behind six", x, 6);
        x.come(7);
        x.come(-1);
        x.go(1);
        x.times(7);
        x.times(25);
        T.due("sort() of none", 0, x.sort());
        T.due("drawn() of none", 0, x.drawn(1, 126));
        T.due("drawn() refused", NONE, x.drawn(61, 0));
        T.due("six acts still", 6, x.now(5));
        T.row("behind six still", x, 6);
        int[][] due = {{0, 6}, {6, 0}, {6, 0}, {1, 0}, {3, 1, 0}, {3, 1}};
        for (int n = 5; n >= 0; n--) {
            T.due("undo", n, x.undo());
            T.row("behind undo to " + n, x, due[5 - n]);
        }
        T.due("undo of none", NONE, x.undo());
    }

    // ---- promises 32 and 33

    private static void image() {
        T.sentence("promise 32", "GROUP and ROW are kept in place k (0, 1): true; false: no such one.");
        for (Supplier<NoughtSums> made : States.ALL) {
            for (int k = 0; k < 2; k++) {
                NoughtSums x = made.get();
                String stood = withoutTapeAndFault(x);
                int place = k;
                T.due("image(" + k + ")", true, x.image(k));
                Tester.read(x, "group 11;put 10 times 3;");
                T.due("image(" + (1 - k) + ")", true, x.image(1 - k));
                T.due("restore(" + k + ")", true, x.restore(k));
                T.due("as kept in " + k, stood, withoutTapeAndFault(x));
                T.due("restore(" + (1 - k) + ")", true, x.restore(1 - place));
                T.row("as kept in the other", x, 10, 10, 10);
                T.due("order of the other", 11, x.now(1));
            }
            for (int k : FAR) {
                States.unchanged(T, "image(" + k + ")", made, x -> T.due("image", false, x.image(k)));
            }
            States.unchanged(T, "image(2)", made, x -> T.due("image", false, x.image(2)));
        }
    }

    private static String withoutTapeAndFault(NoughtSums x) {
        StringBuilder s = new StringBuilder();
        for (int what = 0; what < 5; what++) {
            s.append(x.now(what)).append(' ');
        }
        for (int i = 0; i < 13; i++) {
            s.append(x.part(i)).append(' ').append(x.at(i)).append(' ');
        }
        return s.toString();
    }

    private static void restore() {
        T.sentence("promise 33", "(the tape, what fault() tells, stays; nothing can be undone)");
        NoughtSums x = Tester.of("group 7;put 3;");
        x.come(1);
        x.image(0);
        x.come(2);
        Tester.read(x, "group 7;put 3;put 9;");
        Tester.put(x, "group 5;put 4;");
        T.due("acts ahead", 2, x.now(5));
        T.due("restore", true, x.restore(0));
        T.row("restored", x, 3, 1);
        T.due("acts", 0, x.now(5));
        T.due("undo", NONE, x.undo());
        T.due("fault(0)", 2, x.fault(0));
        T.due("fault(1)", 2, x.fault(1));
        T.due("tape", 14, x.now(6));
        T.due("text", 2, x.text());
        T.row("the tape's row", x, 4);
        T.due("the image is left by a text", true, x.restore(0));
        T.row("restored again", x, 3, 1);
        x.go(0);
        T.due("what is restored is no part of the image", true, x.restore(0));
        T.row("restored a third time", x, 3, 1);
        T.sentence("promise 33", "false: no such one, or nothing is kept there.");
        for (Supplier<NoughtSums> made : States.ALL) {
            for (int k : FAR) {
                States.unchanged(T, "restore(" + k + ")", made, y -> T.due("restore", false, y.restore(k)));
            }
            States.unchanged(T, "restore(2)", made, y -> T.due("restore", false, y.restore(2)));
        }
        for (int k = 0; k < 2; k++) {
            int place = k;
            States.unchanged(T, "restore(" + k + ")", NoughtSums::new, y -> T.due("restore", false, y.restore(place)));
            States.unchanged(T, "restore(" + k + ")", States::bare, y -> T.due("restore", false, y.restore(place)));
            NoughtSums y = Tester.of("group 7;put 3;");
            y.image(k);
            T.due("nothing in the other", false, y.restore(1 - k));
            T.due("something in this", true, y.restore(k));
        }
        States.unchanged(T, "restore(0)", States::midway, y -> T.due("restore", false, y.restore(0)));
    }

    // ---- all promises

    private static void refusedCalls() {
        T.sentence("all promises", "NONE");
        for (Supplier<NoughtSums> made : States.ALL) {
            States.unchanged(T, "calls that are refused", made, BoundaryActsTest::refuse);
        }
    }

    private static void refuse(NoughtSums x) {
        for (int far : FAR) {
            int[] none = {x.fault(far), x.now(far), x.part(far), x.at(far), x.add(far, 0), x.add(0, far),
                x.found(far, 0), x.found(0, far), x.ways(far, 0), x.ways(0, far), x.exactly(far, 1), x.exactly(0, far),
                x.run(far, 0), x.run(0, far), x.free(far), x.atoms(far), x.atom(far), x.signed(far), x.sign(far, 0),
                x.sign(0, far), x.like(far), x.frees(far), x.longestAt(far), x.come(far), x.go(far), x.times(far),
                x.drawn(far, 1)};
            for (int i = 0; i < none.length; i++) {
                T.due("refused call " + i + " with " + far, NONE, none[i]);
            }
            T.due("end(" + far + ")", false, x.end(far));
            T.due("image(" + far + ")", false, x.image(far));
            T.due("restore(" + far + ")", false, x.restore(far));
            T.due("sum(" + far + ")", Tester.THROWS, Tester.sum(x, far));
        }
    }

    private static void lastCalls() {
        T.sentence("What it is", "An object is used for at most 512 calls after it has been made");
        NoughtSums x = Tester.of("group 7;");
        int calls = 4;
        while (calls < CALLS) {
            T.due("call " + (calls + 1), 1, x.come(calls % 7));
            T.due("call " + (calls + 2), 0, x.go(0));
            calls += 2;
        }
        T.due("so many calls", CALLS, calls);
    }
}
