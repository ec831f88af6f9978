/** For each promise of the document what it says, worked out by hand: ordinary, at the edges, wrong. */
public final class PromisesTest {
    private static final int NONE = NoughtSums.NONE;
    private static final Tester T = new Tester();

    public static void main(String[] args) {
        T.due("NONE", -1, NoughtSums.NONE);
        newObject();
        feedAndEnd();
        texts();
        faultsOfGroupRows();
        faultsOfPutRows();
        faultsOfPlaces();
        faultsAtTheEnd();
        faultTold();
        whatStands();
        additions();
        sums();
        foundOnes();
        ways();
        exactlySoMany();
        runs();
        freeRows();
        atomRows();
        partedRows();
        signedRows();
        alike();
        multisets();
        enoughPlaces();
        comeAndGo();
        multiplied();
        sorted();
        drawn();
        undone();
        images();
        T.finish();
    }

    private static String repeat(String s, int n) {
        return s.repeat(n);
    }

    private static void fault(String text, int kind, int place, int row) {
        NoughtSums x = new NoughtSums();
        T.due("text of " + text, -1 - place, Tester.read(x, text));
        T.due("fault(0) of " + text, kind, x.fault(0));
        T.due("fault(1) of " + text, row, x.fault(1));
        T.due("tape behind " + text, 0, x.now(6));
    }

    // ---- promise 1

    private static void newObject() {
        NoughtSums x = new NoughtSums();
        int[] due = {0, 0, 0, 0, NONE, 0, 0, NONE};
        for (int what = 0; what < due.length; what++) {
            T.due("new now(" + what + ")", due[what], x.now(what));
        }
        T.due("new part", NONE, x.part(0));
        T.due("new at", NONE, x.at(0));
        T.due("new add", NONE, x.add(0, 0));
        T.due("new sum(1)", Tester.THROWS, Tester.sum(x, 1));
        T.due("new sums", 0, x.sums());
        T.due("new free(0)", 1, x.free(0));
        T.due("new free(1)", 0, x.free(1));
        T.due("new free(2)", 0, x.free(2));
        T.due("new atoms", NONE, x.atoms(1));
        T.due("new sort", 0, x.sort());
        T.due("new undo", NONE, x.undo());
        T.due("new restore", false, x.restore(0));
        T.due("new text", 0, x.text());
    }

    // ---- promises 2 and 3

    private static void feedAndEnd() {
        NoughtSums x = new NoughtSums();
        T.due("feed", 20, x.feed('g' << 24 | 'r' << 16 | 'o' << 8 | 'u', 'p' << 24 | ' ' << 16 | '5' << 8 | ';', 0, 0, 0));
        T.due("end(8)", true, x.end(8));
        T.due("text fed", 1, x.text());
        T.due("order fed", 5, x.now(1));
        for (int i = 1; i <= 17; i++) {
            T.due("feed " + i, 20 * i, x.feed(i, -1, 0, 1, 2));
        }
        T.due("feed over 340", NONE, x.feed(0, 0, 0, 0, 0));
        T.due("tape full", 340, x.now(6));
        T.due("end(341)", false, x.end(341));
        T.due("end(-1)", false, x.end(-1));
        T.due("tape as it was", 340, x.now(6));
        T.due("end(340)", true, x.end(340));
        T.due("end(321)", true, x.end(321));
        T.due("feed over 340 by one", NONE, x.feed(0, 0, 0, 0, 0));
        T.due("tape still", 321, x.now(6));
        T.due("end(320)", true, x.end(320));
        T.due("feed up to 340", 340, x.feed(0, 0, 0, 0, 0));
        T.due("end(0)", true, x.end(0));
        T.due("end(1) of none", false, x.end(1));
        x.feed('g' << 24 | 'r' << 16 | 'o' << 8 | 'u', 'p' << 24 | ' ' << 16 | '7' << 8 | 'x', 0, 0, 0);
        x.end(7);
        x.feed(';' << 24, 0, 0, 0, 0);
        x.end(8);
        T.due("text fed in two", 1, x.text());
        T.due("order fed in two", 7, x.now(1));
    }

    // ---- promise 4

    private static void texts() {
        NoughtSums x = Tester.of("group 2 3 4;put 1 2 3;put 0 1 0 times 2;");
        T.due("rows", 3, Tester.read(x, "group 2 3 4;put 1 2 3;put 0 1 0 times 2;"));
        T.row("three parts", x, 23, 4, 4);
        T.due("tape", 0, x.now(6));
        T.due("close together", 2, Tester.read(x, "group\n12\n2;put\n11\n1\ntimes 3;"));
        T.row("close", x, 23, 23, 23);
        T.due("leading noughts", 2, Tester.read(x, "  group 05 ;\n put 04 times 01 ; "));
        T.row("leading noughts", x, 4);
        T.due("12 places", 13, Tester.read(x, "group 2;" + repeat("put 1;", 12)));
        T.due("12 by times", 2, Tester.read(x, "group 2;put 1 times 12;"));
        T.due("12 by times, places", 12, x.now(3));
        x.come(0);
        x.go(0);
        T.due("a fault", -7, Tester.read(x, "group 1;"));
        T.due("stays: order", 2, x.now(1));
        T.due("stays: places", 11, x.now(3));
        T.due("stays: undoable", 1, x.now(5));
        T.due("tape behind a fault", 0, x.now(6));
        T.due("a new text", 1, Tester.read(x, "group 24;"));
        T.due("none undoable", NONE, x.undo());
        T.due("no places", 0, x.now(3));
        T.due("an empty text", 0, Tester.read(x, ""));
        T.due("no group", 0, x.now(1));
        Tester.read(x, "group 3;put 2;");
        T.due("a text of blanks", 0, Tester.read(x, " \n \n"));
        T.due("no group", 0, x.now(0));
        T.due("no places", 0, x.now(3));
        String long300 = "group 3;put 2;" + repeat(" ", 285) + "\n";
        T.due("300 bytes", 2, Tester.read(x, long300));
    }

    // ---- promise 4, faults

    private static void faultsOfGroupRows() {
        fault("put 1;", 1, 0, 0);
        fault("5;", 1, 0, 0);
        fault(";", 1, 0, 0);
        fault("times 5;", 1, 0, 0);
        fault("Group 5;", 1, 0, 0);
        fault("groups 5;", 1, 0, 0);
        fault("grou 5;", 1, 0, 0);
        fault("xroup 5;", 1, 0, 0);
        fault("group5;", 1, 0, 0);
        fault("group 5z;", 1, 6, 0);
        fault("group 0a;", 1, 6, 0);
        fault("group 5{;", 1, 7, 0);
        fault("group 5/;", 1, 7, 0);
        fault("group 5\r;", 1, 7, 0);
        fault("\tgroup 5;", 1, 0, 0);
        fault("\u00ffgroup 5;", 1, 0, 0);
        fault("group;", 1, 5, 0);
        fault("group put", 1, 6, 0);
        fault("group 1;", 2, 6, 0);
        fault("group 0;", 2, 6, 0);
        fault("group 25;", 2, 6, 0);
        fault("group 5 5;", 2, 8, 0);
        fault("group 2 12 2;", 2, 11, 0);
        fault("group 2 1;", 2, 8, 0);
        fault("group 123;", 1, 6, 0);
        fault("group 1a;", 1, 6, 0);
        fault("group 2 2 2 2;", 1, 12, 0);
        fault("group 2 2 2 99;", 1, 12, 0);
        fault("group 5;;", 1, 8, 1);
        fault("group 5;group 5;", 1, 8, 1);
        fault("group 5 times 2;", 1, 8, 0);
        fault("group 5-;", 1, 7, 0);
    }

    private static void faultsOfPutRows() {
        fault("group 5;put;", 1, 11, 1);
        fault("group 5;put 5;", 2, 12, 1);
        fault("group 5;put 1 1;", 1, 14, 1);
        fault("group 2 3;put 1;", 1, 15, 1);
        fault("group 2 3;put 1 3;", 2, 16, 1);
        fault("group 2 3;put 2 3;", 2, 14, 1);
        fault("group 2 3;put 1 2 0;", 1, 18, 1);
        fault("group 2 3;put 1 times 2;", 1, 16, 1);
        fault("group 5;put 1;put 2 times;", 1, 25, 2);
        fault("group 5;put 1 times 0;", 2, 20, 1);
        fault("group 5;put 1 times 13;", 2, 20, 1);
        fault("group 5;put 1 times 2 2;", 1, 22, 1);
        fault("group 5;put 1 times times 2;", 1, 20, 1);
        fault("group 5;put 1times 2;", 1, 12, 1);
        fault("group 5;put 1 put 1;", 1, 14, 1);
        fault("group 5;put 1 often 2;", 1, 14, 1);
        fault("group 5;puts 1;", 1, 8, 1);
    }

    private static void faultsOfPlaces() {
        fault("group 5;put 1 times 10;put 2 times 3;", 2, 35, 2);
        fault("group 5;put 1 times 12;put 1;", 3, 23, 2);
        fault("group 5;put 1 times 12;put 1 times 1;", 2, 35, 2);
        fault("group 5;put 1 times 12;put 5;", 2, 27, 2);
        fault("group 5;put 1 times 12;put 1 ", 1, 29, 2);
        fault("group 5;put 1 times 12;put 1 1;", 1, 29, 2);
        fault("group 5;put 1 times 12;put 1;put 9;", 3, 23, 2);
        fault("group 2;" + repeat("put 1;", 13), 3, 8 + 72, 13);
    }

    private static void faultsAtTheEnd() {
        fault("group 5", 1, 7, 0);
        fault("group", 1, 5, 0);
        fault("group  ", 1, 7, 0);
        fault("group 5;put 1", 1, 13, 1);
        fault("group 5;put 1 \n", 1, 15, 1);
        fault("group 5;put 1 times", 1, 19, 1);
        fault(repeat(" ", 301), 1, 300, 0);
        fault("group 5;" + repeat(" ", 293), 1, 300, 1);
        fault("group 5;" + repeat(" ", 291) + "?" + " ", 1, 299, 1);
        fault("group 5;" + repeat(" ", 292) + "put 1;", 1, 300, 1);
        fault("group 5;" + repeat(" ", 290) + "put 1;", 1, 300, 1);
        fault("group 5;" + repeat(" ", 287) + "put 1;", 1, 300, 1);
        fault("group 5;" + repeat(" ", 287) + "put 1", 1, 300, 1);
        fault("group 5;" + repeat(" ", 290) + "pus 1;", 1, 298, 1);
        fault("group 5;put" + repeat(" ", 288) + "12;", 2, 299, 1);
        fault("group 5;put" + repeat(" ", 288) + "123;", 1, 299, 1);
        fault("group 15;put" + repeat(" ", 287) + "12;", 1, 300, 1);
        fault("group 5;put 9;" + repeat(" ", 300), 2, 12, 1);
        fault("group 5;put 1 times 12;put 1" + repeat(" ", 272) + ";", 1, 300, 2);
        fault("group 5;put 1 times 12;put 1" + repeat(" ", 271) + "; ", 3, 23, 2);
        NoughtSums x = new NoughtSums();
        T.due("; last of 300", 2, Tester.read(x, "group 5;put 1" + repeat(" ", 286) + ";"));
    }

    // ---- promise 5

    private static void faultTold() {
        NoughtSums x = new NoughtSums();
        T.due("ahead of any (0)", 0, x.fault(0));
        T.due("ahead of any (1)", NONE, x.fault(1));
        Tester.read(x, "group 5;put 1;put 7;");
        T.due("kind", 2, x.fault(0));
        T.due("row", 2, x.fault(1));
        T.due("fault(2)", NONE, x.fault(2));
        T.due("fault(-1)", NONE, x.fault(-1));
        Tester.put(x, "group 5;");
        T.due("kind still", 2, x.fault(0));
        x.text();
        T.due("no kind", 0, x.fault(0));
        T.due("no row", NONE, x.fault(1));
    }

    // ---- promises 6, 7, 8

    private static void whatStands() {
        NoughtSums x = Tester.of("group 2 4 3;put 1 3 2;put 1 0 1;");
        int[] due = {3, 24, 12, 2, 9, 0, 0};
        for (int what = 0; what < due.length; what++) {
            T.due("now(" + what + ")", due[what], x.now(what));
        }
        T.due("now(7)", NONE, x.now(7));
        T.due("now(-1)", NONE, x.now(-1));
        int[] parts = {2, 4, 3, NONE};
        for (int i = 0; i < parts.length; i++) {
            T.due("part(" + i + ")", parts[i], x.part(i));
        }
        T.due("part(-1)", NONE, x.part(-1));
        T.row("whatStands", x, 23, 13);
        T.due("at(-1)", NONE, x.at(-1));
        x.go(0);
        x.go(0);
        T.due("sum of no places", NONE, x.now(4));
        T.due("acts", 2, x.now(5));
        T.due("exponent of 4 6", 12, Tester.of("group 4 6;").now(2));
        T.due("exponent of 2 2", 2, Tester.of("group 2 2;").now(2));
    }

    // ---- promise 9

    private static void additions() {
        NoughtSums x = Tester.of("group 3 4;");
        T.due("add(11, 11)", 6, x.add(11, 11));
        T.due("add(7, 5)", 8, x.add(7, 5));
        T.due("add(0, 9)", 9, x.add(0, 9));
        T.due("add(12, 0)", NONE, x.add(12, 0));
        T.due("add(0, 12)", NONE, x.add(0, 12));
        T.due("add(-1, 0)", NONE, x.add(-1, 0));
        T.due("add(0, -1)", NONE, x.add(0, -1));
        T.due("in 2 2 2", 3, Tester.of("group 2 2 2;").add(5, 6));
    }

    // ---- promises 10, 11

    private static void sums() {
        NoughtSums x = Tester.of("group 3 3;put 1 0;put 0 1;put 1 1;");
        T.due("sum(1)", 3, Tester.sum(x, 1));
        T.due("sum(6)", 5, Tester.sum(x, 6));
        T.due("sum(7)", 8, Tester.sum(x, 7));
        T.due("sum(0)", Tester.THROWS, Tester.sum(x, 0));
        T.due("sum(8)", Tester.THROWS, Tester.sum(x, 8));
        T.due("sum(9)", Tester.THROWS, Tester.sum(x, 9));
        T.due("sum(-1)", Tester.THROWS, Tester.sum(x, -1));
        T.due("sum(least int)", Tester.THROWS, Tester.sum(x, Integer.MIN_VALUE));
        T.row("sum changes nothing", x, 3, 1, 4);
        T.due("sums", 1 << 3 | 1 << 1 | 1 << 4 | 1 << 7 | 1 << 5 | 1 << 8, x.sums());
        T.due("sums of no places", 0, Tester.of("group 7;").sums());
        T.due("sums of 0", 1, Tester.of("group 7;put 0;").sums());
        T.due("sums of 24", 1 << 23, Tester.of("group 24;put 23;").sums());
        x = Tester.of("group 2;put 1 times 12;");
        T.due("sum of 12", 0, Tester.sum(x, 4095));
        T.due("sum of 11", 1, Tester.sum(x, 4094));
        T.due("sum(4096)", Tester.THROWS, Tester.sum(x, 4096));
    }

    // ---- promise 12

    private static void foundOnes() {
        NoughtSums x = Tester.of("group 10;put 1;put 2;put 3;put 4;put 5;");
        T.due("found(5, 0)", 1, x.found(5, 0));
        T.due("found(5, 1)", 16, x.found(5, 1));
        T.due("found(7, 0)", 2, x.found(7, 0));
        T.due("found(7, 1)", 12, x.found(7, 1));
        T.due("found(0, 0)", 3, x.found(0, 0));
        T.due("found(0, 1)", 2 | 4 | 16, x.found(0, 1));
        T.due("found(0, 2)", NONE, x.found(0, 2));
        T.due("found(0, -1)", NONE, x.found(0, -1));
        T.due("found(10, 0)", NONE, x.found(10, 0));
        T.due("found(-1, 0)", NONE, x.found(-1, 0));
        T.due("found none", NONE, Tester.of("group 10;put 5;").found(0, 0));
        T.due("found none (1)", NONE, Tester.of("group 10;put 5;").found(0, 1));
        T.due("found nought of no places", NONE, Tester.of("group 10;").found(0, 0));
    }

    // ---- promise 13

    private static void ways() {
        NoughtSums x = Tester.of("group 4;put 2 times 4;");
        T.due("ways(0, 0)", 7, x.ways(0, 0));
        T.due("ways(0, 2)", 6, x.ways(0, 2));
        T.due("ways(0, 4)", 1, x.ways(0, 4));
        T.due("ways(0, 1)", 0, x.ways(0, 1));
        T.due("ways(2, 3)", 4, x.ways(2, 3));
        T.due("ways(2, 0)", 8, x.ways(2, 0));
        T.due("ways(1, 0)", 0, x.ways(1, 0));
        T.due("ways(0, 5)", NONE, x.ways(0, 5));
        T.due("ways(0, -1)", NONE, x.ways(0, -1));
        T.due("ways(4, 0)", NONE, x.ways(4, 0));
        T.due("ways(-1, 0)", NONE, x.ways(-1, 0));
        T.due("ways of no places", 0, Tester.of("group 4;").ways(0, 0));
        T.due("ways(0, 1) of no places", NONE, Tester.of("group 4;").ways(0, 1));
        T.due("ways of 12", 4095, Tester.of("group 2;put 0 times 12;").ways(0, 0));
        T.due("ways of 6 of 12", 924, Tester.of("group 2;put 0 times 12;").ways(0, 6));
        x = Tester.of("group 2;put 0 times 12;");
        T.due("ways of 12 of 12", 1, x.ways(0, 12));
        Tester.read(x, "group 3;put 1;");
        T.due("ways of another row", 0, x.ways(0, 0));
        T.due("ways of another row", 1, x.ways(1, 0));
    }

    // ---- promise 14

    private static void exactlySoMany() {
        NoughtSums x = Tester.of("group 6;put 1;put 2;put 3;put 4;put 5;");
        T.due("exactly(0, 2)", 2 | 8, x.exactly(0, 2));
        T.due("exactly(0, 3)", 7, x.exactly(0, 3));
        T.due("exactly(3, 5)", 31, x.exactly(3, 5));
        T.due("exactly(3, 1)", 4, x.exactly(3, 1));
        T.due("exactly(0, 1)", NONE, x.exactly(0, 1));
        T.due("exactly(0, 0)", NONE, x.exactly(0, 0));
        T.due("exactly(0, 6)", NONE, x.exactly(0, 6));
        T.due("exactly(0, -1)", NONE, x.exactly(0, -1));
        T.due("exactly(6, 1)", NONE, x.exactly(6, 1));
        T.due("exactly(-1, 1)", NONE, x.exactly(-1, 1));
        x = Tester.of("group 24;put 2 times 12;");
        T.due("exactly 12 of 12", 4095, x.exactly(0, 12));
        T.due("exactly 11 of 12", 2047, x.exactly(22, 11));
        T.due("found of 12", 12, x.found(0, 0));
        T.due("sums of 12", 0x555555, x.sums());
        T.due("an atom of 12", 1, x.free(1));
    }

    // ---- promise 15

    private static void runs() {
        NoughtSums x = Tester.of("group 6;put 2;put 1;put 3;put 0;put 3;");
        T.due("run(0, 0)", 0, x.run(0, 0));
        T.due("run(0, 1)", 3, x.run(0, 1));
        T.due("run(3, 0)", 0, x.run(3, 0));
        T.due("run(3, 1)", 2, x.run(3, 1));
        T.due("run(1, 0)", 1, x.run(1, 0));
        T.due("run(1, 1)", 1, x.run(1, 1));
        T.due("run(4, 0)", 1, x.run(4, 0));
        T.due("run(4, 1)", 2, x.run(4, 1));
        T.due("run(5, 0)", NONE, x.run(5, 0));
        T.due("run(0, 2)", NONE, x.run(0, 2));
        T.due("run(0, -1)", NONE, x.run(0, -1));
        T.due("run(6, 0)", NONE, x.run(6, 0));
        T.due("run(-1, 0)", NONE, x.run(-1, 0));
        T.due("run of no places", NONE, Tester.of("group 6;").run(0, 0));
    }

    // ---- promise 16

    private static void freeRows() {
        NoughtSums x = Tester.of("group 7;put 1;put 2;");
        T.due("free(0)", 1, x.free(0));
        T.due("free(1)", 0, x.free(1));
        T.due("free(2)", 1 << 1 | 1 << 2 | 1 << 3, x.free(2));
        T.due("free(3)", NONE, x.free(3));
        T.due("free(-1)", NONE, x.free(-1));
        NoughtSums full = Tester.of("group 24;put 1 times 12;");
        T.due("12 places, free", 1, full.free(0));
        T.due("12 places, with which it would be free", 0xffe, full.free(2));
        x.come(4);
        T.due("not free", 0, x.free(0));
        T.due("none may come", 0, x.free(2));
        T.due("of no places", 126, Tester.of("group 7;").free(2));
        T.due("of no places (0)", 1, Tester.of("group 7;").free(0));
        T.due("of 0", 0, Tester.of("group 7;put 0;").free(0));
        T.due("of 2 2", 0, Tester.of("group 2 2;put 0 1;put 1 0;").free(2));
    }

    private static void atomRows() {
        NoughtSums x = Tester.of("group 7;put 1;put 2;put 4;");
        T.due("1 2 4", 1, x.free(1));
        x.come(0);
        T.due("1 2 4 0", 0, x.free(1));
        T.due("0", 1, Tester.of("group 7;put 0;").free(1));
        T.due("0 0", 0, Tester.of("group 7;put 0 times 2;").free(1));
        T.due("no places", 0, Tester.of("group 7;").free(1));
        T.due("1 2", 0, Tester.of("group 7;put 1;put 2;").free(1));
        T.due("1 by 7", 1, Tester.of("group 7;put 1 times 7;").free(1));
        T.due("1 6 2 5", 0, Tester.of("group 7;put 1;put 6;put 2;put 5;").free(1));
    }

    // ---- promises 17, 18

    private static void partedRows() {
        NoughtSums x = Tester.of("group 6;put 1;put 2;put 3;put 3;put 4;put 5;");
        T.due("atoms(0)", 2, x.atoms(0));
        T.due("atoms(1)", 3, x.atoms(1));
        T.due("atom(0)", 1 | 32, x.atom(0));
        T.due("atom(1)", 2 | 16, x.atom(1));
        T.due("atom(2)", 4 | 8, x.atom(2));
        T.due("atom(3)", NONE, x.atom(3));
        T.due("atom(-1)", NONE, x.atom(-1));
        T.due("atoms(2)", NONE, x.atoms(2));
        T.due("atoms(-1)", NONE, x.atoms(-1));
        x.come(1);
        T.due("sum not nought", NONE, x.atoms(0));
        T.due("sum not nought, atom", NONE, x.atom(0));
        T.due("no places", NONE, Tester.of("group 6;").atoms(0));
        T.due("no places, atom", NONE, Tester.of("group 6;").atom(0));
        x = Tester.of("group 2;put 0 times 12;");
        T.due("12 of 0, fewest", 12, x.atoms(0));
        T.due("12 of 0, most", 12, x.atoms(1));
        T.due("12 of 0, last", 2048, x.atom(11));
        x = Tester.of("group 2;put 1 times 12;");
        T.due("12 of 1, fewest", 6, x.atoms(0));
        T.due("12 of 1, first", 3, x.atom(0));
        T.due("12 of 1, last", 3 << 10, x.atom(5));
        x = Tester.of("group 5;put 1 times 5;put 4 times 5;");
        T.due("1 4 by 5, fewest", 2, x.atoms(0));
        T.due("1 4 by 5, most", 5, x.atoms(1));
        T.due("1 4 by 5, first", 33, x.atom(0));
        x.go(0);
        x.come(3);
        T.due("another row, most", NONE, x.atoms(1));
        x.come(3);
        T.due("another row, first", 17, x.come(0) == 12 ? x.atom(0) : 0);
        x = Tester.of("group 6;put 1;put 5;");
        T.due("1 5", 1, x.atoms(1));
        x.come(0);
        T.due("1 5 0", 2, x.atoms(1));
        x.come(0);
        T.due("1 5 0 0", 3, x.atoms(0));
        x.go(3);
        T.due("1 5 0 again", 2, x.atoms(0));
        Tester.read(x, "group 2;put 1 times 12;");
        T.due("12 of 1 by 2", 6, x.atoms(1));
        Tester.read(x, "group 3;put 1 times 12;");
        T.due("12 of 1 by 3", 4, x.atoms(1));
        Tester.read(x, "group 3;put 1 times 4;put 2 times 4;");
        T.due("1 2 by 4, fewest", 3, x.atoms(0));
        T.due("1 2 by 4, most", 4, x.atoms(1));
        Tester.read(x, "group 3;put 1 times 6;put 2 times 6;");
        T.due("1 2 by 6, fewest", 4, x.atoms(0));
        T.due("1 2 by 6, most", 6, x.atoms(1));
        // Places 0, 1, 2 are the lesser number, but then only two come about.
        x = Tester.of("group 7;put 1;put 2;put 4;put 6;put 5;put 3;");
        T.due("by twos", 3, x.atoms(1));
        T.due("by twos, first", 1 | 8, x.atom(0));
        T.due("by threes", 2, x.atoms(0));
    }

    // ---- promises 19, 20

    private static void signedRows() {
        NoughtSums x = Tester.of("group 5;put 1;put 2;");
        // + : 1, - : 4, 2: 2, -2: 3, 1+2: 3, 1-2: 4, -1+2: 1, -1-2: 2
        int[] due = {0, 2, 2, 2, 2};
        for (int g = 0; g < due.length; g++) {
            T.due("signed(" + g + ")", due[g], x.signed(g));
        }
        T.due("signed(5)", NONE, x.signed(5));
        T.due("signed(-1)", NONE, x.signed(-1));
        T.due("its own opposite", 2, Tester.of("group 4;put 2;").signed(2));
        T.due("two own opposites", 4, Tester.of("group 4;put 2 times 2;").signed(0));
        T.due("no places", 0, Tester.of("group 4;").signed(0));
        T.due("12 of 0", 531440, Tester.of("group 4;put 0 times 12;").signed(0));
        T.due("sign(0, 0)", NONE, x.sign(0, 0));
        T.due("sign(1, 0)", 1, x.sign(1, 0));
        T.due("sign(1, 1)", 0, x.sign(1, 1));
        T.due("sign(2, 0)", 0, x.sign(2, 0));
        T.due("sign(2, 1)", 1, x.sign(2, 1));
        T.due("sign(3, 0)", 0, x.sign(3, 0));
        T.due("sign(3, 1)", 2, x.sign(3, 1));
        T.due("sign(4, 0)", 1, x.sign(4, 0));
        T.due("sign(4, 1)", 2, x.sign(4, 1));
        T.due("sign(1, 2)", NONE, x.sign(1, 2));
        T.due("sign(1, -1)", NONE, x.sign(1, -1));
        T.due("sign(5, 0)", NONE, x.sign(5, 0));
        T.due("sign(-1, 0)", NONE, x.sign(-1, 0));
        x = Tester.of("group 4;put 1;put 2;put 2;");
        T.due("not all left (0)", 0, x.sign(0, 0));
        T.due("not all left (1)", 1, x.sign(0, 1));
        T.due("not all left (2)", 1, x.sign(0, 2));
        T.due("four rows", 4, x.signed(0));
    }

    // ---- promise 21

    private static void alike() {
        NoughtSums x = Tester.of("group 7;put 3;put 5;put 3;");
        // by 5: 1 4 1
        int[] due = {1, 1, 4, NONE};
        for (int i = 0; i < due.length; i++) {
            T.due("like(" + i + ")", due[i], x.like(i));
        }
        T.due("like(-1)", NONE, x.like(-1));
        T.row("like changes nothing", x, 3, 5, 3);
        x = Tester.of("group 8;put 6;put 4;");
        T.due("by units alone (0)", 2, x.like(0));
        T.due("by units alone (1)", 4, x.like(1));
        x = Tester.of("group 2 3;put 1 2;put 0 2;");
        T.due("part by part (0)", 1, x.like(0));
        T.due("part by part (1)", 4, x.like(1));
    }

    // ---- promises 22, 23, 24

    private static void multisets() {
        NoughtSums x = Tester.of("group 4;put 3;");
        // none; 1 2 3; 11 12 23 33; 111 333
        int[] due = {1, 3, 4, 2, 0};
        for (int n = 0; n < due.length; n++) {
            T.due("frees(" + n + ") of 4", due[n], x.frees(n));
        }
        T.due("frees(12)", 0, x.frees(12));
        T.due("frees(13)", NONE, x.frees(13));
        T.due("frees(-1)", NONE, x.frees(-1));
        T.due("longest of 4", 3, x.longest());
        T.due("longestAt(0)", 1, x.longestAt(0));
        T.due("longestAt(2)", 1, x.longestAt(2));
        T.due("longestAt(3)", NONE, x.longestAt(3));
        T.due("longestAt(-1)", NONE, x.longestAt(-1));
        T.row("multisets change nothing", x, 3);
        x = Tester.of("group 2 4;");
        T.due("longest of 2 4", 4, x.longest());
        int[] first = {1, 1, 1, 4, NONE};
        for (int i = 0; i < first.length; i++) {
            T.due("longestAt(" + i + ") of 2 4", first[i], x.longestAt(i));
        }
        Tester.read(x, "group 13;");
        T.due("frees of 13", NONE, x.frees(0));
        T.due("longest of 13", NONE, x.longest());
        T.due("longestAt of 13", NONE, x.longestAt(0));
        Tester.read(x, "group 12;");
        T.due("longest of 12", 11, x.longest());
        T.due("longestAt(10) of 12", 1, x.longestAt(10));
        T.due("frees(11) of 12", 4, x.frees(11));
        T.due("frees(12) of 12", 0, x.frees(12));
        Tester.read(x, "group 3;");
        T.due("longest of 3 behind 12", 2, x.longest());
        T.due("longestAt(2) of 3 behind 12", NONE, x.longestAt(2));
        T.due("frees(1) of 3 behind 12", 2, x.frees(1));
        T.due("frees(11) of 3 behind 12", 0, x.frees(11));
        Tester.read(x, "");
        T.due("frees of none", NONE, x.frees(0));
        T.due("longest of none", NONE, x.longest());
        T.due("longestAt of none", NONE, x.longestAt(0));
    }

    // ---- promise 25

    private static void enoughPlaces() {
        String[] groups = {"2", "3", "4", "5", "6", "2 2", "2 3", "3 2", "7", "2 4", "24"};
        int[] due = {3, 5, 7, 9, 11, 5, 11, 11, NONE, NONE, NONE};
        for (int i = 0; i < groups.length; i++) {
            T.due("enough of " + groups[i], due[i], Tester.of("group " + groups[i] + ";").enough());
        }
        T.due("enough of none", NONE, new NoughtSums().enough());
    }

    // ---- promises 26, 27

    private static void comeAndGo() {
        NoughtSums x = Tester.of("group 5;");
        T.due("come(4)", 1, x.come(4));
        T.due("come(0)", 2, x.come(0));
        T.due("come(5)", NONE, x.come(5));
        T.due("come(-1)", NONE, x.come(-1));
        T.row("come", x, 4, 0);
        T.due("acts", 2, x.now(5));
        for (int i = 3; i <= 12; i++) {
            T.due("come", i, x.come(2));
        }
        T.due("a 13th", NONE, x.come(2));
        x = Tester.of("group 5;put 1;put 2;put 3;");
        T.due("go(3)", NONE, x.go(3));
        T.due("go(-1)", NONE, x.go(-1));
        T.due("no acts", 0, x.now(5));
        T.due("go(1)", 2, x.go(1));
        T.row("go(1)", x, 1, 3);
        T.due("go(0)", 1, x.go(0));
        T.row("go(0)", x, 3);
        T.due("go last", 0, x.go(0));
        T.due("go none", NONE, x.go(0));
    }

    // ---- promise 28

    private static void multiplied() {
        NoughtSums x = Tester.of("group 2 6;put 1 1;put 1 2;");
        T.due("times(5)", 3, x.times(5));
        T.row("times(5)", x, 11, 10);
        T.due("times(3)", NONE, x.times(3));
        T.due("times(2)", NONE, x.times(2));
        T.due("times(0)", NONE, x.times(0));
        T.due("times(-1)", NONE, x.times(-1));
        T.due("times(25)", NONE, x.times(25));
        T.row("as it was", x, 11, 10);
        T.due("acts", 1, x.now(5));
        T.due("times(23)", 3, x.times(23));
        T.row("times(23)", x, 7, 8);
        T.due("times(1)", 3, x.times(1));
        T.due("acts", 3, x.now(5));
        T.due("times(24) of 5", 1, Tester.of("group 5;put 4;").times(24));
        T.due("times of no places", NONE, Tester.of("group 5;").times(1));
    }

    // ---- promise 29

    private static void sorted() {
        NoughtSums x = Tester.of("group 9;put 8;put 2;put 8;put 1;put 4;");
        T.due("sort", 4, x.sort());
        T.row("sort", x, 1, 2, 4, 8, 8);
        T.due("sort again", 0, x.sort());
        T.due("one act", 1, x.now(5));
        T.due("undo", 0, x.undo());
        T.row("undone", x, 8, 2, 8, 1, 4);
        T.due("of like ones", 0, Tester.of("group 9;put 3 times 12;").sort());
    }

    // ---- promise 30

    private static void drawn() {
        NoughtSums x = Tester.of("group 7;put 3;");
        T.due("drawn(0, 1)", NONE, x.drawn(0, 1));
        T.due("drawn(61, 1)", NONE, x.drawn(61, 1));
        T.due("drawn(-1, 1)", NONE, x.drawn(-1, 1));
        T.due("no acts", 0, x.now(5));
        Model m = new Model();
        for (int seed = -300; seed < 300; seed++) {
            String text = seed % 3 == 0 ? "group 7;" : seed % 3 == 1 ? "group 2 6;put 1 3;" : "group 24;put 5 times 12;";
            T.due("text", Tester.read(x, text), readModel(m, text));
            int n = 1 + Math.floorMod(seed, 60);
            T.due("drawn(" + n + ", " + seed + ")", m.drawn(n, seed), x.drawn(n, seed));
            for (int i = 0; i < 13; i++) {
                T.due("drawn(" + n + ", " + seed + ") at", m.at(i), x.at(i));
            }
            T.due("one act at most", m.now(5), x.now(5));
            T.due("undone", m.undo(), x.undo());
            T.due("undone places", m.now(3), x.now(3));
        }
        T.due("without a group", 0, new NoughtSums().drawn(60, 77));
    }

    private static int readModel(Model m, String text) {
        Tester.put(m, text);
        return m.text();
    }

    // ---- promise 31

    private static void undone() {
        NoughtSums x = Tester.of("group 11;");
        T.due("none", NONE, x.undo());
        for (int i = 1; i <= 10; i++) {
            x.come(i);
        }
        T.due("8 kept", 8, x.now(5));
        for (int i = 7; i >= 0; i--) {
            T.due("undo", i, x.undo());
            T.due("places", 2 + i, x.now(3));
        }
        T.due("none more", NONE, x.undo());
        T.row("what is left", x, 1, 2);
        x.go(0);
        x.times(3);
        x.come(4);
        x.sort();
        x.come(11);
        x.go(9);
        x.times(11);
        T.row("four acts", x, 4, 6);
        T.due("four acts, those that were NONE left out", 4, x.now(5));
        x.undo();
        x.come(10);
        x.undo();
        x.undo();
        T.due("times undone", 1, x.undo());
        T.row("as behind go(0)", x, 2);
        x.undo();
        T.row("as ahead of go(0)", x, 1, 2);
        T.due("none", NONE, x.undo());
    }

    // ---- promises 32, 33

    private static void images() {
        NoughtSums x = new NoughtSums();
        T.due("image(2)", false, x.image(2));
        T.due("image(-1)", false, x.image(-1));
        T.due("restore(2)", false, x.restore(2));
        T.due("restore(-1)", false, x.restore(-1));
        T.due("image of none", true, x.image(1));
        Tester.read(x, "group 2 3;put 1 2;");
        T.due("restore nothing", false, x.restore(0));
        T.due("image(0)", true, x.image(0));
        x.come(3);
        T.due("an image is no act", 1, x.now(5));
        Tester.read(x, "group 24;put 23 times 12;");
        x.go(0);
        Tester.read(x, "group 24;put 24;");
        Tester.put(x, "group");
        T.due("restore nothing kept there yet", true, x.restore(0));
        T.due("parts", 2, x.now(0));
        T.due("order", 6, x.now(1));
        T.due("exponent", 6, x.now(2));
        T.row("restored", x, 5);
        T.due("add", 1, x.add(5, 5));
        T.due("none undoable", 0, x.now(5));
        T.due("undo", NONE, x.undo());
        T.due("tape stays", 5, x.now(6));
        T.due("fault stays", 2, x.fault(0));
        T.due("fault's row stays", 1, x.fault(1));
        x.come(1);
        T.due("restore again", true, x.restore(0));
        T.row("restored again", x, 5);
        T.due("restore none", true, x.restore(1));
        T.due("no group", 0, x.now(1));
        T.due("no places", 0, x.now(3));
        T.due("no element", NONE, x.come(0));
        x.restore(0);
        x.come(0);
        x.image(0);
        x.go(0);
        T.due("false changes nothing", false, x.restore(5));
        T.due("acts", 2, x.now(5));
        x.restore(0);
        T.row("the later image", x, 5, 0);
    }
}
