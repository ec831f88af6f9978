/** Each sentence of the document on elements, sums and groups (Terms 2, promises 9 to 25) that names a boundary. */
public final class BoundarySumsTest {
    private static final int NONE = NoughtSums.NONE;
    private static final String TERMS = "Terms 2";
    private static final String[] ORDER_OVER_12 = {"13", "14", "24", "2 7", "4 4", "2 12", "2 2 4", "2 3 4"};
    private static final String FULLER = "put 0 times 2;put 11 times 4;put 1 times 4;put 6 times 2;";
    private static final Tester T = new Tester();

    public static void main(String[] args) {
        elements();
        subRows();
        additions();
        sumOfOne();
        sumsOfAll();
        found();
        ways();
        exactlySoMany();
        runs();
        freeRows();
        atomRows();
        parted();
        atomsOfMost();
        signed();
        firstSigned();
        alike();
        freeMultisets();
        longestOnes();
        enoughPlaces();
        T.finish();
    }

    /** A text read by an object that has told all of a fuller row ahead: nothing of that may be left. */
    private static NoughtSums of(String text) {
        NoughtSums x = Tester.of("group 12;" + FULLER);
        x.sums();
        x.ways(0, 12);
        x.found(0, 1);
        T.due("the fuller row's most atoms", 7, x.atoms(1));
        T.due("the fuller row's signs", 1, x.sign(0, 11));
        T.due("the fuller row's least alike", 0, x.like(0));
        x.signed(0);
        T.due("the fuller row's group", 11, x.longest());
        T.due("text of " + text, false, Tester.read(x, text) < 0);
        return x;
    }

    /** Numbers that none of 0 to limit - 1 is, among them those that a shift by them would take for one. */
    private static int[] outside(int limit) {
        return new int[] {-1, -2, limit, limit + 1, limit + 32, limit + 256, -32, Integer.MIN_VALUE,
            Integer.MIN_VALUE + 1, Integer.MAX_VALUE};
    }

    // ---- Terms 2

    private static void elements() {
        T.sentence(TERMS, "the first X by the second PART, and the second X, that by the third PART, and the third X "
            + "(of fewer PARTS likewise): 0 is NOUGHT");
        T.row("three parts", of("group 2 3 4;put 0 0 0;put 0 0 3;put 0 1 0;put 1 0 0;put 1 2 3;"),
            0, 3, 4, 12, 23);
        T.row("two parts", of("group 3 4;put 0 0;put 0 3;put 1 0;put 2 3;"), 0, 3, 4, 11);
        T.row("one part", of("group 24;put 0;put 23;"), 0, 23);
        T.sentence(TERMS, "They are added PART by PART (modulo it).");
        NoughtSums x = of("group 2 3 4;");
        T.due("the third wraps", 0, x.add(3, 1));
        T.due("the second wraps", 0, x.add(8, 4));
        T.due("the first wraps", 0, x.add(12, 12));
        T.due("all wrap", 0, x.add(23, 17));
        T.due("each wraps, and none carries", 6, x.add(23, 23));
        T.due("none wraps", 23, x.add(12, 11));
        x = of("group 24;");
        T.due("23 and 1", 0, x.add(23, 1));
        T.due("23 and 23", 22, x.add(23, 23));
        T.due("0 and 23", 23, x.add(0, 23));
        T.sentence(TERMS, "EXPONENT: the least number of times that each ELEMENT, so often, makes NOUGHT");
        String[] groups = {"2", "23", "2 2", "4 6", "6 4", "2 4", "3 3", "2 2 2", "2 2 6", "2 3 4"};
        int[] due = {2, 23, 2, 12, 12, 4, 3, 2, 6, 12};
        for (int i = 0; i < groups.length; i++) {
            T.due("exponent of " + groups[i], due[i], of("group " + groups[i] + ";").now(2));
        }
        T.sentence(TERMS, "Sets of ELEMENTS, of PLACES (numbered from 0) are told as bits.");
        x = of("group 24;put 0 times 11;put 23;");
        T.due("sums", 1 << 23 | 1, x.sums());
        T.due("found", 2048, x.found(23, 1));
        T.due("sum of the last place", 23, Tester.sum(x, 2048));
        T.due("sum of the first place", 0, Tester.sum(x, 1));
    }

    private static void subRows() {
        T.sentence(TERMS, "SUB-ROW: a set of PLACES, not none");
        NoughtSums x = of("group 7;put 3;");
        T.due("sum(0)", Tester.THROWS, Tester.sum(x, 0));
        T.due("sums", 8, x.sums());
        T.due("found", NONE, x.found(0, 0));
        T.due("ways", 0, x.ways(0, 0));
        T.due("run", NONE, x.run(0, 0));
        T.due("free", 1, x.free(0));
        x = of("group 7;");
        T.due("sum(0) of no places", Tester.THROWS, Tester.sum(x, 0));
        T.due("sums of no places", 0, x.sums());
        T.due("ways of no places", 0, x.ways(0, 0));
        T.sentence(TERMS, "A call that throws changes nothing.");
        for (int set : new int[] {0, -1, 4096, 8192, Integer.MIN_VALUE, Integer.MAX_VALUE}) {
            for (int i = 0; i < States.ALL.size(); i++) {
                States.unchanged(T, "sum(" + set + ")", States.ALL.get(i),
                    y -> T.due("sum(" + set + ")", Tester.THROWS, Tester.sum(y, set)));
            }
        }
    }

    // ---- promises 9, 10, 11

    private static void additions() {
        T.sentence("promise 9", "Of two ELEMENTS what they make; NONE: no such ones.");
        for (String parts : new String[] {"2", "24", "3 3", "2 2 6"}) {
            NoughtSums x = of("group " + parts + ";");
            int order = x.now(1);
            T.due("the least", 0, x.add(0, 0));
            T.due("the most of " + parts, order - 1, x.add(order - 1, 0));
            T.due("the most of " + parts, order - 1, x.add(0, order - 1));
            for (int g : outside(order)) {
                T.due("add(" + g + ", 0) of " + parts, NONE, x.add(g, 0));
                T.due("add(1, " + g + ") of " + parts, NONE, x.add(1, g));
                T.due("add(" + g + ", " + g + ") of " + parts, NONE, x.add(g, g));
            }
        }
        T.due("add(0, 0) without a group", NONE, new NoughtSums().add(0, 0));
    }

    private static void sumOfOne() {
        T.sentence("promise 10", "SUM of a SUB-ROW. NoSuchElementException: none such.");
        NoughtSums x = of("group 24;");
        for (int n = 0; n <= 12; n++) {
            int all = (1 << n) - 1;
            if (n > 0) {
                T.due("all of " + n, 5 * n % 24, Tester.sum(x, all));
                T.due("the first of " + n, 5, Tester.sum(x, 1));
                T.due("the last of " + n, 5, Tester.sum(x, 1 << (n - 1)));
            }
            for (int set : new int[] {0, all + 1, all + 2, all << 1 | 1 << 12, 1 << 30, 1 << 31, -1, -all - 1}) {
                T.due("sum(" + set + ") of " + n, Tester.THROWS, Tester.sum(x, set));
            }
            if (n < 12) {
                x.come(5);
            }
        }
    }

    private static void sumsOfAll() {
        T.sentence("promise 11", "SUMS of all SUB-ROWS.");
        T.due("without a group", 0, new NoughtSums().sums());
        T.due("of no places", 0, of("group 24;").sums());
        T.due("of nought", 1, of("group 24;put 0;").sums());
        T.due("of the most", 1 << 23, of("group 24;put 23;").sums());
        T.due("of 12 noughts", 1, of("group 24;put 0 times 12;").sums());
        T.due("of 12 ones", 0x1ffe, of("group 24;put 1 times 12;").sums());
        T.due("all but nought", 0xfffffe, of("group 24;put 1 times 11;put 12;").sums());
        T.due("all there are", 0xffffff, of("group 24;put 1 times 6;put 7 times 5;").sums());
        T.due("wrapped", 0b1111110, of("group 7;put 5 times 6;").sums());
    }

    // ---- promises 12, 13, 14, 15

    private static void found() {
        T.sentence(TERMS, "the SUB-ROW of the fewest PLACES that has it as SUM, of like ones the least number");
        NoughtSums x = of("group 10;put 1;put 2;put 3;put 4;put 5;put 5;");
        T.due("one place rather than two of a lesser number", 1, x.found(5, 0));
        T.due("the least of two of one place", 16, x.found(5, 1));
        T.due("two places, the least number", 2 | 8, x.found(6, 1));
        T.due("three of its own", 2, x.found(9, 0));
        T.due("nought by two", 48, x.found(0, 1));
        x.go(5);
        x.go(4);
        T.due("5 by the least of two", 6, x.found(5, 1));
        T.due("nought by all", 4, x.found(0, 0));
        T.due("nought by all", 15, x.found(0, 1));
        x = of("group 24;put 2 times 12;");
        T.due("all 12", 4095, x.found(0, 1));
        T.due("how many of 12", 12, x.found(0, 0));
        T.due("the first", 1, x.found(2, 1));
        T.sentence("promise 12", "how many PLACES (0), which (1). NONE: none, no such ones.");
        x = of("group 10;put 5;");
        for (int what = 0; what < 2; what++) {
            T.due("nought of 5, " + what, NONE, x.found(0, what));
            T.due("4 of 5, " + what, NONE, x.found(4, what));
            T.due("5 of 5, " + what, 1, x.found(5, what));
            T.due("nought of no places, " + what, NONE, of("group 10;").found(0, what));
            T.due("without a group, " + what, NONE, new NoughtSums().found(0, what));
            for (int g : outside(10)) {
                T.due("found(" + g + ", " + what + ")", NONE, x.found(g, what));
            }
        }
        for (int what : outside(2)) {
            T.due("found(5, " + what + ")", NONE, x.found(5, what));
        }
    }

    private static void ways() {
        T.sentence("promise 13", "How many SUB-ROWS of k PLACES (0: of however many) have an ELEMENT as SUM");
        NoughtSums x = of("group 2;put 0 times 12;");
        int[] due = {4095, 12, 66, 220, 495, 792, 924, 792, 495, 220, 66, 12, 1};
        for (int k = 0; k <= 12; k++) {
            T.due("of 12 noughts, " + k, due[k], x.ways(0, k));
            T.due("of 12 noughts 1, " + k, 0, x.ways(1, k));
        }
        x = of("group 3;put 1;");
        T.due("nought of 1", 0, x.ways(0, 0));
        T.due("nought of 1", 0, x.ways(0, 1));
        T.due("1 of 1", 1, x.ways(1, 0));
        T.due("1 of 1", 1, x.ways(1, 1));
        x = of("group 24;put 23 times 2;");
        T.due("the most element", 2, x.ways(23, 1));
        T.due("wrapped", 1, x.ways(22, 2));
        T.due("of no places", 0, of("group 3;").ways(0, 0));
        T.sentence("promise 13", "NONE: no such ones (k 0 to PLACES).");
        x = of("group 3;put 1;put 2;");
        T.due("ways(0, 2)", 1, x.ways(0, 2));
        for (int k : outside(3)) {
            T.due("ways(0, " + k + ")", NONE, x.ways(0, k));
        }
        for (int g : outside(3)) {
            T.due("ways(" + g + ", 0)", NONE, x.ways(g, 0));
            T.due("ways(" + g + ", 1)", NONE, x.ways(g, 1));
        }
        T.due("ways(0, 1) of no places", NONE, of("group 3;").ways(0, 1));
        T.due("ways(0, 13) of 12", NONE, of("group 3;put 0 times 12;").ways(0, 13));
        T.due("without a group", NONE, new NoughtSums().ways(0, 0));
    }

    private static void exactlySoMany() {
        T.sentence("promise 14", "The SUB-ROW of k PLACES of the least number that has it as SUM");
        NoughtSums x = of("group 6;put 1;put 2;put 3;put 4;put 5;put 0;");
        T.due("the least of three", 10, x.exactly(0, 2));
        T.due("by one", 32, x.exactly(0, 1));
        T.due("by all", 63, x.exactly(3, 6));
        T.due("by five", 31, x.exactly(3, 5));
        x = of("group 24;put 1 times 12;");
        for (int k = 1; k <= 12; k++) {
            T.due("the first " + k, (1 << k) - 1, x.exactly(k, k));
        }
        T.sentence("promise 14", "NONE: none, no such ones.");
        T.due("none", NONE, x.exactly(12, 11));
        T.due("none", NONE, x.exactly(0, 1));
        T.due("none of no places", NONE, x.exactly(0, 0));
        for (int k : outside(13)) {
            T.due("exactly(1, " + k + ")", NONE, x.exactly(1, k));
        }
        for (int g : outside(24)) {
            T.due("exactly(" + g + ", 1)", NONE, x.exactly(g, 1));
        }
        x = of("group 3;put 0;");
        T.due("exactly(0, 0)", NONE, x.exactly(0, 0));
        T.due("exactly(0, 2) of one place", NONE, x.exactly(0, 2));
        T.due("of no places", NONE, of("group 3;").exactly(0, 0));
        T.due("of no places", NONE, of("group 3;").exactly(0, 1));
        T.due("without a group", NONE, new NoughtSums().exactly(0, 1));
    }

    private static void run(NoughtSums x, int g, int begin, int length) {
        T.due("run(" + g + ", 0)", begin, x.run(g, 0));
        T.due("run(" + g + ", 1)", length, x.run(g, 1));
    }

    private static void runs() {
        T.sentence(TERMS, "A RUN: PLACES one behind the other");
        NoughtSums x = of("group 9;put 2;put 1;put 4;");
        run(x, 4, 2, 1);
        run(x, 7, 0, 3);
        run(x, 5, 1, 2);
        run(x, 6, NONE, NONE);
        run(x, 0, NONE, NONE);
        T.sentence(TERMS, "of an ELEMENT that which begins first, of those the shortest one");
        run(of("group 7;put 1;put 2;put 3;"), 3, 0, 2);
        run(of("group 7;put 1;put 0;put 0;"), 1, 0, 1);
        run(of("group 7;put 1;put 6;put 0;put 0;"), 0, 0, 2);
        run(of("group 7;put 0 times 12;"), 0, 0, 1);
        run(of("group 24;put 2 times 12;"), 0, 0, 12);
        run(of("group 7;put 1;put 1;put 5;put 5;"), 5, 0, 4);
        T.sentence("promise 15", "where it begins (0), how long it is (1). NONE: none, no such ones.");
        x = of("group 7;put 1;put 3;");
        run(x, 0, NONE, NONE);
        run(x, 2, NONE, NONE);
        for (int g : outside(7)) {
            run(x, g, NONE, NONE);
        }
        for (int what : outside(2)) {
            T.due("run(1, " + what + ")", NONE, x.run(1, what));
        }
        run(of("group 7;"), 0, NONE, NONE);
        run(new NoughtSums(), 0, NONE, NONE);
    }

    // ---- promise 16

    private static void freeRows() {
        T.sentence(TERMS, "A ROW is FREE, if no SUB-ROW has SUM NOUGHT");
        T.due("without a group", 1, new NoughtSums().free(0));
        T.due("of no places", 1, of("group 2;").free(0));
        T.due("of nought", 0, of("group 2;put 0;").free(0));
        T.due("of one less than makes nought", 1, of("group 12;put 1 times 11;").free(0));
        T.due("of as many as make nought", 0, of("group 12;put 1 times 12;").free(0));
        T.due("of 12 places", 1, of("group 13;put 1 times 12;").free(0));
        T.due("two in the midst make nought", 0, of("group 9;put 1;put 2;put 7;put 1;").free(0));
        T.sentence("promise 16", "ELEMENTS that may come so that it is FREE still (bits; none if it is not)");
        T.due("without a group", 0, new NoughtSums().free(2));
        T.due("of no places: all but nought", 0xfffffe, of("group 24;").free(2));
        T.due("of no places in 2", 2, of("group 2;").free(2));
        T.due("1 1 of 3", 0, of("group 3;put 1;put 1;").free(2));
        T.due("1 1 of 4", 2, of("group 4;put 1;put 1;").free(2));
        T.due("11 of 1 of 24", 0x1ffe, of("group 24;put 1 times 11;").free(2));
        T.due("not free", 0, of("group 24;put 0;").free(2));
        T.due("not free", 0, of("group 24;put 12 times 2;").free(2));
        T.sentence("promise 16", "NONE for another what.");
        for (int what : outside(3)) {
            T.due("free(" + what + ")", NONE, of("group 3;put 1;").free(what));
            T.due("free(" + what + ") of a new object", NONE, new NoughtSums().free(what));
        }
    }

    private static void atomRows() {
        T.sentence(TERMS, "an ATOM, if it has PLACES, its SUM is NOUGHT, and no other SUB-ROW's is (but itself)");
        T.due("without a group", 0, new NoughtSums().free(1));
        T.due("of no places", 0, of("group 7;").free(1));
        T.due("of nought", 1, of("group 7;put 0;").free(1));
        T.due("of two noughts", 0, of("group 7;put 0 times 2;").free(1));
        T.due("of one that is not nought", 0, of("group 7;put 1;").free(1));
        T.due("1 6", 1, of("group 7;put 1;put 6;").free(1));
        T.due("1 6 0", 0, of("group 7;put 1;put 6;put 0;").free(1));
        T.due("1 1 6 6", 0, of("group 7;put 1 times 2;put 6 times 2;").free(1));
        T.due("sum is not nought, but a sub-row's is", 0, of("group 7;put 1;put 6;put 1;").free(1));
        T.due("12 of 1", 1, of("group 12;put 1 times 12;").free(1));
        T.due("12 of 1 in 6", 0, of("group 6;put 1 times 12;").free(1));
        T.due("11 of 1", 0, of("group 12;put 1 times 11;").free(1));
    }

    // ---- promises 17, 18

    private static void atomsDue(String text, int fewest, int most) {
        NoughtSums x = of(text);
        T.due("fewest of " + text, fewest, x.atoms(0));
        T.due("most of " + text, most, x.atoms(1));
    }

    private static void parted() {
        T.sentence(TERMS, "PARTED is a ROW with SUM NOUGHT into SUB-ROWS that are ATOMS (each PLACE in just one)");
        atomsDue("group 7;put 0;", 1, 1);
        atomsDue("group 2;put 0 times 12;", 12, 12);
        atomsDue("group 2;put 1 times 12;", 6, 6);
        atomsDue("group 12;put 1 times 12;", 1, 1);
        atomsDue("group 5;put 1 times 5;put 4 times 5;", 2, 5);
        atomsDue("group 3;put 1 times 6;put 2 times 6;", 4, 6);
        atomsDue("group 7;put 1;put 2;put 4;put 6;put 5;put 3;", 2, 3);
        atomsDue("group 7;put 1;put 2;put 4;put 6;put 5;put 3;put 0;", 3, 4);
        // The same row in groups of other orders, another row in the same group.
        atomsDue("group 12;" + FULLER, 7, 7);
        atomsDue("group 20;" + FULLER, 4, 4);
        atomsDue("group 12;put 0 times 2;", 2, 2);
        atomsDue("group 12;put 0 times 12;", 12, 12);
        atomsDue("group 12;put 1;put 11;", 1, 1);
        // An atom in the midst, an atom round another one.
        atomsDue("group 12;put 1;put 0;put 11;", 2, 2);
        atomsDue("group 12;put 6;put 0;put 6;", 2, 2);
        T.sentence("promise 17", "how many. NONE: SUM is not NOUGHT, no PLACES, another what.");
        atomsDue("group 7;put 1;", NONE, NONE);
        atomsDue("group 7;put 1;put 6;put 1;", NONE, NONE);
        atomsDue("group 7;put 0 times 11;put 6;", NONE, NONE);
        atomsDue("group 7;", NONE, NONE);
        atomsDue("", NONE, NONE);
        for (int what : outside(2)) {
            T.due("atoms(" + what + ")", NONE, of("group 7;put 0;").atoms(what));
        }
    }

    private static void atomsOfMostDue(String text, int... due) {
        NoughtSums x = of(text);
        for (int i = 0; i < due.length; i++) {
            T.due("atom(" + i + ") of " + text, due[i], x.atom(i));
        }
        for (int i : outside(due.length)) {
            T.due("atom(" + i + ") of " + text, NONE, x.atom(i));
        }
    }

    private static void atomsOfMost() {
        T.sentence(TERMS, "one after the other that with the least PLACE that is left, the least number by which, "
            + "with those ahead, the most still comes about");
        atomsOfMostDue("group 6;put 1;put 5;put 5;put 1;", 3, 12);
        atomsOfMostDue("group 6;put 1;put 1;put 5;put 5;", 5, 10);
        // 1 2 4 are the least number with place 0, but then three would not come about.
        atomsOfMostDue("group 7;put 1;put 2;put 4;put 6;put 5;put 3;", 9, 18, 36);
        atomsOfMostDue("group 2;put 0 times 12;", 1, 2, 4, 8, 16, 32, 64, 128, 256, 512, 1024, 2048);
        atomsOfMostDue("group 12;put 1 times 12;", 4095);
        atomsOfMostDue("group 7;put 0;", 1);
        // 1 4 4 twice: the second 4 of the first is the next one, at place 3.
        atomsOfMostDue("group 9;put 1;put 4;put 1;put 4;put 4;put 4;", 11, 52);
        T.sentence("promise 18", "The i-th (from 0) of the most; NONE: none such.");
        atomsOfMostDue("group 7;put 1;put 6;put 0;", 3, 4);
        atomsOfMostDue("group 7;put 1;");
        atomsOfMostDue("group 7;put 1;put 6;put 2;");
        atomsOfMostDue("group 7;");
        atomsOfMostDue("");
    }

    // ---- promises 19, 20

    private static void signedDue(String text, int... due) {
        NoughtSums x = of(text);
        for (int g = 0; g < due.length; g++) {
            T.due("signed(" + g + ") of " + text, due[g], x.signed(g));
        }
        for (int g : outside(due.length)) {
            T.due("signed(" + g + ") of " + text, NONE, x.signed(g));
        }
    }

    private static void signed() {
        T.sentence(TERMS, "each PLACE is left, counts, or counts against (PLACES of ELEMENTS that are their own "
            + "opposite, too): not all are left");
        signedDue("group 4;put 2;", 0, 0, 2, 0);
        signedDue("group 4;put 2 times 2;", 4, 0, 4, 0);
        signedDue("group 3;put 0;", 2, 0, 0);
        signedDue("group 3;put 0 times 2;", 8, 0, 0);
        signedDue("group 3;put 1;", 0, 1, 1);
        signedDue("group 3;put 1 times 2;", 2, 3, 3);
        signedDue("group 2;put 0 times 12;", 531440, 0);
        signedDue("group 2;put 1;", 0, 2);
        T.sentence("promise 19", "How many SIGNED rows make an ELEMENT; NONE: no such one.");
        signedDue("group 3;", 0, 0, 0);
        signedDue("group 5;put 1;put 2;", 0, 2, 2, 2, 2);
        signedDue("");
    }

    private static void signs(NoughtSums x, int g, int... due) {
        for (int place = 0; place < due.length; place++) {
            T.due("sign(" + g + ", " + place + ")", due[place], x.sign(g, place));
        }
    }

    private static void firstSigned() {
        T.sentence(TERMS, "in order of rows of 0, 1, 2 (PLACE 0 first)");
        NoughtSums x = of("group 5;put 1;put 2;");
        signs(x, 1, 1, 0);
        signs(x, 2, 0, 1);
        signs(x, 3, 0, 2);
        signs(x, 4, 1, 2);
        x = of("group 4;put 2 times 3;");
        signs(x, 0, 0, 1, 1);
        signs(x, 2, 0, 0, 1);
        x = of("group 3;put 0;put 1;");
        signs(x, 0, 1, 0);
        signs(x, 2, 0, 2);
        x = of("group 24;put 2 times 12;");
        signs(x, 0, 0, 0, 0, 0, 0, 0, 0, 0, 0, 0, 1, 2);
        T.sentence("promise 20", "0 left, 1 counts, 2 against. NONE: none, no such ones.");
        x = of("group 5;put 1;put 2;");
        for (int place = 0; place < 2; place++) {
            T.due("nought by none, " + place, NONE, x.sign(0, place));
            for (int g : outside(5)) {
                T.due("sign(" + g + ", " + place + ")", NONE, x.sign(g, place));
            }
        }
        for (int place : outside(2)) {
            T.due("sign(1, " + place + ")", NONE, x.sign(1, place));
        }
        x = of("group 24;put 2 times 12;");
        for (int place : outside(12)) {
            T.due("sign(2, " + place + ") of 12", NONE, x.sign(2, place));
        }
        T.due("an odd one of 2 by 12", NONE, x.sign(1, 11));
        T.due("of no places", NONE, of("group 5;").sign(0, 0));
        T.due("without a group", NONE, new NoughtSums().sign(0, 0));
    }

    // ---- promise 21

    private static void likeDue(String text, int... due) {
        NoughtSums x = of(text);
        for (int place = 0; place < due.length; place++) {
            T.due("like(" + place + ") of " + text, due[place], x.like(place));
        }
        for (int place : outside(due.length)) {
            T.due("like(" + place + ") of " + text, NONE, x.like(place));
        }
    }

    private static void alike() {
        T.sentence(TERMS, "multiplied (PART by PART) by one number that has nothing in common with EXPONENT "
            + "(1 to EXPONENT), and then put in order (the least first): the least row, PLACE by PLACE");
        likeDue("group 3;put 1;", 1);
        likeDue("group 7;put 6;", 1);
        likeDue("group 23;put 22;", 1);
        for (int g = 1; g < 13; g++) {
            likeDue("group 13;put " + g + ";", 1);
        }
        likeDue("group 2;put 1;", 1);
        likeDue("group 8;put 6;put 4;", 2, 4);
        likeDue("group 6;put 3;put 2;", 2, 3);
        likeDue("group 6;put 5;put 1;", 1, 5);
        likeDue("group 24;put 0;", 0);
        likeDue("group 7;put 3;put 5;put 3;", 1, 1, 4);
        likeDue("group 2 3;put 1 2;put 0 2;", 1, 4);
        likeDue("group 2 2;put 1 1;put 0 1;", 1, 3);
        likeDue("group 3 4;put 2 3;", 5);
        likeDue("group 24;put 23 times 12;", 1, 1, 1, 1, 1, 1, 1, 1, 1, 1, 1, 1);
        T.sentence("promise 21", "LIKE: the ELEMENT at a PLACE; NONE: none such.");
        likeDue("group 5;put 4;put 4;", 1, 1);
        likeDue("group 5;");
        likeDue("");
    }

    // ---- promises 22 to 25

    private static void freesDue(String parts, int... due) {
        NoughtSums x = of("group " + parts + ";");
        for (int n = 0; n <= 12; n++) {
            T.due("frees(" + n + ") of " + parts, n < due.length ? due[n] : 0, x.frees(n));
        }
        for (int n : outside(13)) {
            T.due("frees(" + n + ") of " + parts, NONE, x.frees(n));
        }
    }

    private static void freeMultisets() {
        T.sentence("promise 22", "How many MULTISETS of the GROUP with n PLACES (0 to 12) are FREE");
        freesDue("2", 1, 1);
        freesDue("3", 1, 2, 2);
        freesDue("2 2", 1, 3, 3);
        freesDue("4", 1, 3, 4, 2);
        T.due("11 of 12", 4, of("group 12;").frees(11));
        T.due("12 of 12", 0, of("group 12;").frees(12));
        T.due("none of 12", 1, of("group 12;").frees(0));
        T.sentence("promise 22", "NONE: no such n, no GROUP, ORDER above 12.");
        for (int n : outside(13)) {
            T.due("frees(" + n + ") of 12", NONE, of("group 12;").frees(n));
        }
        for (int n = 0; n <= 12; n++) {
            T.due("frees(" + n + ") without a group", NONE, new NoughtSums().frees(n));
            for (String parts : ORDER_OVER_12) {
                T.due("frees(" + n + ") of " + parts, NONE, of("group " + parts + ";").frees(n));
            }
        }
    }

    private static void longestDue(String parts, int... due) {
        NoughtSums x = of("group " + parts + ";");
        T.due("longest of " + parts, due.length, x.longest());
        for (int place = 0; place < due.length; place++) {
            T.due("longestAt(" + place + ") of " + parts, due[place], x.longestAt(place));
        }
        for (int place : outside(due.length)) {
            T.due("longestAt(" + place + ") of " + parts, NONE, x.longestAt(place));
        }
    }

    private static void longestOnes() {
        T.sentence(TERMS, "Of a GROUP (ORDER 12 at most)");
        longestDue("12", 1, 1, 1, 1, 1, 1, 1, 1, 1, 1, 1);
        longestDue("2 6", 1, 1, 1, 1, 1, 6);
        T.due("longest of 3 4", 11, of("group 3 4;").longest());
        T.due("longest of 4 3", 11, of("group 4 3;").longest());
        T.due("longest of 2 2 3", 6, of("group 2 2 3;").longest());
        T.sentence(TERMS, "LONGEST: the most PLACES these have; the first such one, PLACE by PLACE the least");
        longestDue("2", 1);
        longestDue("3", 1, 1);
        longestDue("2 2", 1, 2);
        longestDue("2 3", 4, 4, 4, 4, 4);
        longestDue("3 3", 1, 1, 3, 3);
        longestDue("2 2 2", 1, 2, 4);
        T.sentence("promise 23", "LONGEST; NONE: no GROUP, ORDER above 12.");
        T.due("longest without a group", NONE, new NoughtSums().longest());
        for (String parts : ORDER_OVER_12) {
            T.due("longest of " + parts, NONE, of("group " + parts + ";").longest());
        }
        T.sentence("promise 24", "Of the first such one the ELEMENT at a PLACE; NONE: none such, likewise.");
        NoughtSums x = of("group 12;");
        for (int place : outside(11)) {
            T.due("longestAt(" + place + ") of 12", NONE, x.longestAt(place));
        }
        for (int place = 0; place < 12; place++) {
            T.due("longestAt(" + place + ") without a group", NONE, new NoughtSums().longestAt(place));
            Tester.read(x, "group 12;");
            T.due("longest of 12", 11, x.longest());
            for (String parts : ORDER_OVER_12) {
                Tester.read(x, "group " + parts + ";");
                T.due("longestAt(" + place + ") of " + parts, NONE, x.longestAt(place));
            }
            x = new NoughtSums();
        }
    }

    private static void enoughPlaces() {
        T.sentence(TERMS, "ENOUGH (ORDER 6 at most): the least length from which on each ROW of so many PLACES has "
            + "EXPONENT of them with SUM NOUGHT");
        String[] groups = {"2", "3", "4", "2 2", "5", "6", "2 3", "3 2"};
        int[] due = {3, 5, 7, 5, 9, 11, 11, 11};
        for (int i = 0; i < groups.length; i++) {
            T.due("enough of " + groups[i], due[i], of("group " + groups[i] + ";").enough());
        }
        T.sentence("promise 25", "ENOUGH; NONE: no GROUP, ORDER above 6.");
        T.due("enough without a group", NONE, new NoughtSums().enough());
        for (String parts : new String[] {"7", "8", "2 4", "2 2 2", "3 3", "12", "24", "2 3 4"}) {
            T.due("enough of " + parts, NONE, of("group " + parts + ";").enough());
        }
    }
}
