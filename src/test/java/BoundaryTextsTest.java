/** Each sentence of the document on texts (Terms 1, promises 1 to 8) that names a boundary, a test of its own. */
public final class BoundaryTextsTest {
    private static final int NONE = NoughtSums.NONE;
    private static final String TERMS = "Terms 1";
    private static final Tester T = new Tester();

    public static void main(String[] args) {
        blanks();
        wordsAndNumbers();
        lengthAndRows();
        groupRows();
        putRows();
        firstAndLeastFault();
        noTokens();
        endOfBytes();
        tokensAtTheLimit();
        numbersNotAsTold();
        thirteenthPlace();
        newObject();
        feeding();
        ending();
        reading();
        faultTold();
        whatStands();
        T.finish();
    }

    private static String blanks(int n) {
        return " ".repeat(n);
    }

    private static void good(String text, int rows, int... elements) {
        NoughtSums x = States.midway();
        String shown = "[" + text + "]";
        T.due("text " + shown, rows, Tester.read(x, text));
        T.row(shown, x, elements);
        T.due("fault(0) of " + shown, 0, x.fault(0));
    }

    private static void fault(String text, int kind, int place, int row) {
        NoughtSums x = States.midway();
        String shown = "[" + text + "]";
        T.due("text " + shown, -1 - place, Tester.read(x, text));
        T.due("fault(0) of " + shown, kind, x.fault(0));
        T.due("fault(1) of " + shown, row, x.fault(1));
    }

    // ---- Terms 1: tokens

    private static void blanks() {
        T.sentence(TERMS, "with blanks (32, 10) between them or not");
        good(" \n group \n 5 \n ; \n put\n4\ntimes\n2\n;\n ", 2, 4, 4);
        good("group 5;put 4;put 3;", 3, 4, 3);
        good("group\n5;", 1);
        for (char c : new char[] {0, 9, 11, 12, 13, 31, 33, 127, 128, 138, 160, 255}) {
            fault("group 5;" + c + "put 1;", 1, 8, 1);
            fault("group" + c + "5;", 1, 5, 0);
            fault("group 5;put 1" + c + ";", 1, 13, 1);
            fault(c + "group 5;", 1, 0, 0);
            fault("group 5;" + c, 1, 8, 1);
        }
    }

    private static void wordsAndNumbers() {
        T.sentence(TERMS, "WORDS: small letters");
        fault("Group 5;", 1, 0, 0);
        fault("grouP 5;", 1, 0, 0);
        fault("GROUP 5;", 1, 0, 0);
        fault("group 5;Put 1;", 1, 8, 1);
        fault("group 5;puT 1;", 1, 8, 1);
        fault("group 5;put 1 Times 2;", 1, 14, 1);
        fault("group 5;put 1 timeS 2;", 1, 14, 1);
        fault("`group 5;", 1, 0, 0);
        fault("group{ 5;", 1, 5, 0);
        fault("groups 5;", 1, 0, 0);
        fault("grou 5;", 1, 0, 0);
        fault("xroup 5;", 1, 0, 0);
        fault("group 5;xut 1;", 1, 8, 1);
        fault("group 5;pux 1;", 1, 8, 1);
        fault("group 5;put 1 ximes 2;", 1, 14, 1);
        fault("group 5;put 1 timex 2;", 1, 14, 1);
        fault("a 5;", 1, 0, 0);
        fault("z 5;", 1, 0, 0);
        T.sentence(TERMS, "NUMBERS: 1 or 2 digits");
        good("group 5;put 4;", 2, 4);
        good("group 05;put 04 times 02;", 2, 4, 4);
        good("group 10;put 09;put 00;", 3, 9, 0);
        fault("group 005;", 1, 6, 0);
        fault("group 5;put 001;", 1, 12, 1);
        fault("group 5;put 1 times 001;", 1, 20, 1);
        fault("group 123456789012345678901234567890;", 1, 6, 0);
        fault("group 5/;", 1, 7, 0);
        fault("group 5:;", 1, 7, 0);
        fault("group /5;", 1, 6, 0);
        fault("group :5;", 1, 6, 0);
        fault("group -5;", 1, 6, 0);
        T.sentence(TERMS, "the sign ;");
        fault("group 5:put 1;", 1, 7, 0);
        fault("group 5<put 1;", 1, 7, 0);
        fault("group 5,put 1;", 1, 7, 0);
        good("group 5;", 1);
        T.sentence(TERMS, "A WORD, NUMBER goes on as long as small letters and digits do; what is not as told is no TOKEN.");
        fault("group5;", 1, 0, 0);
        fault("group 5put 1;", 1, 6, 0);
        fault("group 5a;", 1, 6, 0);
        fault("group 5z;", 1, 6, 0);
        fault("group a5;", 1, 6, 0);
        fault("group 2 05x;", 1, 8, 0);
        fault("group 5;put1;", 1, 8, 1);
        fault("group 5;put0 1;", 1, 8, 1);
        fault("group 5;put9 1;", 1, 8, 1);
        fault("group 5;put 1times 2;", 1, 12, 1);
        fault("group 5;put 1 times2;", 1, 14, 1);
        fault("group 5;put 1 times 2x;", 1, 20, 1);
        fault("5group 5;", 1, 0, 0);
    }

    // ---- Terms 1: rows

    private static void lengthAndRows() {
        T.sentence(TERMS, "A TEXT has at most 300 bytes");
        good("group 5;put 1;" + blanks(286), 2, 1);
        good("group 5;put 1" + blanks(286) + ";", 2, 1);
        good("group 5;put 1;" + blanks(285), 2, 1);
        fault("group 5;put 1;" + blanks(287), 1, 300, 2);
        fault("group 5;put 1;" + "\n".repeat(326), 1, 300, 2);
        good(blanks(300), 0);
        fault(blanks(301), 1, 300, 0);
        T.sentence(TERMS, "{ ROW ; }");
        fault("group 5", 1, 7, 0);
        fault("group 5 put 1;", 1, 8, 0);
        fault("group 5;put 1", 1, 13, 1);
        fault("group 5;put 1 put 2;", 1, 14, 1);
        fault("group 5;put 1 times 2 put 2;", 1, 22, 1);
        fault(";", 1, 0, 0);
        fault(";group 5;", 1, 0, 0);
        fault("group 5;;", 1, 8, 1);
        fault("group 5;;put 1;", 1, 8, 1);
        T.sentence(TERMS, "The first ROW: 'group'");
        fault("put 1;", 1, 0, 0);
        fault("times 1;", 1, 0, 0);
        fault("5;", 1, 0, 0);
        T.sentence(TERMS, "The others: 'put'");
        fault("group 5;group 5;", 1, 8, 1);
        fault("group 5;put 1;group 5;", 1, 14, 2);
        fault("group 5;times 1;", 1, 8, 1);
        fault("group 5;1;", 1, 8, 1);
    }

    private static void groupRows() {
        T.sentence(TERMS, "(1 to 3 NUMBERS, PARTS");
        fault("group;", 1, 5, 0);
        fault("group ;put 1;", 1, 6, 0);
        good("group 2;put 1;", 2, 1);
        good("group 2 2;put 1 1;", 2, 3);
        good("group 2 2 2;put 1 1 1;", 2, 7);
        fault("group 2 2 2 2;", 1, 12, 0);
        fault("group 2 2 2 2 2;", 1, 12, 0);
        fault("group put;", 1, 6, 0);
        fault("group 2 times 2;", 1, 8, 0);
        T.sentence(TERMS, "2 to 24 each");
        good("group 24;put 23;", 2, 23);
        fault("group 0;", 2, 6, 0);
        fault("group 1;", 2, 6, 0);
        fault("group 25;", 2, 6, 0);
        fault("group 99;", 2, 6, 0);
        fault("group 2 1;", 2, 8, 0);
        fault("group 2 0;", 2, 8, 0);
        fault("group 2 2 1;", 2, 10, 0);
        fault("group 2 2 0;", 2, 10, 0);
        T.sentence(TERMS, "multiplied 24 at most");
        good("group 2 12;put 1 11;", 2, 23);
        good("group 12 2;put 11 1;", 2, 23);
        good("group 4 6;put 3 5;", 2, 23);
        good("group 2 3 4;put 1 2 3;", 2, 23);
        fault("group 5 5;", 2, 8, 0);
        fault("group 2 13;", 2, 8, 0);
        fault("group 24 2;", 2, 9, 0);
        fault("group 3 3 3;", 2, 10, 0);
        fault("group 2 12 2;", 2, 11, 0);
        fault("group 2 2 7;", 2, 10, 0);
    }

    private static void putRows() {
        T.sentence(TERMS, "as many as PARTS");
        fault("group 5;put;", 1, 11, 1);
        fault("group 5;put times 2;", 1, 12, 1);
        fault("group 5;put 1 1;", 1, 14, 1);
        fault("group 2 3;put 1;", 1, 15, 1);
        fault("group 2 3;put 1 times 2;", 1, 16, 1);
        fault("group 2 3;put 1 1 1;", 1, 18, 1);
        fault("group 2 3 4;put 1 2;", 1, 19, 1);
        fault("group 2 3 4;put 1 2 3 0;", 1, 22, 1);
        T.sentence(TERMS, "each below its PART");
        good("group 2 3 4;put 1 0 0;put 0 2 0;put 0 0 3;put 0 0 0;", 5, 12, 8, 3, 0);
        fault("group 2 3 4;put 2 0 0;", 2, 16, 1);
        fault("group 2 3 4;put 0 3 0;", 2, 18, 1);
        fault("group 2 3 4;put 0 0 4;", 2, 20, 1);
        fault("group 4 3 2;put 3 2 2;", 2, 20, 1);
        fault("group 5;put 5;", 2, 12, 1);
        fault("group 5;put 99;", 2, 12, 1);
        fault("group 24;put 24;", 2, 13, 1);
        T.sentence(TERMS, "[ 'times' M ] (1 to 12)");
        good("group 5;put 4 times 1;", 2, 4);
        good("group 5;put 4 times 12;", 2, 4, 4, 4, 4, 4, 4, 4, 4, 4, 4, 4, 4);
        fault("group 5;put 4 times 0;", 2, 20, 1);
        fault("group 5;put 4 times 00;", 2, 20, 1);
        fault("group 5;put 4 times 13;", 2, 20, 1);
        fault("group 5;put 4 times 99;", 2, 20, 1);
        fault("group 5;put 4 times;", 1, 19, 1);
        fault("group 5;put 4 times 1 2;", 1, 22, 1);
        fault("group 5;put 4 times 1 times 1;", 1, 22, 1);
        fault("group 5;put 4 times times 1;", 1, 20, 1);
        T.sentence(TERMS, "that ELEMENT comes so often (12 PLACES at most)");
        good("group 5;put 4;put 3 times 2;put 2 times 1;", 4, 4, 3, 3, 2);
        good("group 5;put 4 times 5;put 3 times 7;", 3, 4, 4, 4, 4, 4, 3, 3, 3, 3, 3, 3, 3);
        good("group 2;" + "put 1;".repeat(12), 13, 1, 1, 1, 1, 1, 1, 1, 1, 1, 1, 1, 1);
        good("group 2;put 1 times 11;put 0;", 3, 1, 1, 1, 1, 1, 1, 1, 1, 1, 1, 1, 0);
    }

    // ---- Terms 1: faults

    private static void firstAndLeastFault() {
        T.sentence(TERMS, "FAULTS, the first along the text");
        fault("group 5;put 5;put;", 2, 12, 1);
        fault("group 5;put;put 5;", 1, 11, 1);
        fault("group 1 ?;", 2, 6, 0);
        fault("group 5 ?1;", 1, 8, 0);
        fault("group 25;put 1 times 13;", 2, 6, 0);
        fault("group 2 3;put 2 3;", 2, 14, 1);
        fault("group 5;put 7 times 13", 2, 12, 1);
        fault("group 5;put 1 times 13", 2, 20, 1);
        T.sentence(TERMS, "of one TOKEN the least");
        fault("group 2 2 2 1;", 1, 12, 0);
        fault("group 2 2 2 25;", 1, 12, 0);
        fault("group 2 2 2 7;", 1, 12, 0);
        fault("group 5;put 1 5;", 1, 14, 1);
        fault("group 5;put 1 times 2 13;", 1, 22, 1);
        fault("group 5;25;", 1, 8, 1);
        fault("group 5;put 555;", 1, 12, 1);
        fault("group 999;", 1, 6, 0);
    }

    private static void noTokens() {
        T.sentence(TERMS, "1 no TOKEN, or one that can't come (at it");
        fault("?", 1, 0, 0);
        fault("  ?", 1, 2, 0);
        fault("group ?;", 1, 6, 0);
        fault("group 5 ?;", 1, 8, 0);
        fault("group 5; ?", 1, 9, 1);
        fault("group 5;put ?;", 1, 12, 1);
        fault("group 5;put 1 ?;", 1, 14, 1);
        fault("group 5;put 1 times ?;", 1, 20, 1);
        fault("group 5;put 1 times 2 ?;", 1, 22, 1);
        fault("group 5;put 1;put 2; ?", 1, 21, 3);
        fault("group 5;put 1 two 2;", 1, 14, 1);
        fault("group 5;put put 1;", 1, 12, 1);
        fault("group group 5;", 1, 6, 0);
        fault("group 5 group;", 1, 8, 0);
        fault("group 5 put;", 1, 8, 0);
    }

    private static void endOfBytes() {
        T.sentence(TERMS, "the end: how many bytes there are");
        fault("group", 1, 5, 0);
        fault("group ", 1, 6, 0);
        fault("group 5", 1, 7, 0);
        fault("group 5 \n", 1, 9, 0);
        fault("group 2 3", 1, 9, 0);
        fault("group 2 3 4", 1, 11, 0);
        fault("group 5;put", 1, 11, 1);
        fault("group 2 3;put 1", 1, 15, 1);
        fault("group 5;put 1", 1, 13, 1);
        fault("group 5;put 1 times", 1, 19, 1);
        fault("group 5;put 1 times 2", 1, 21, 1);
        fault("group 5;put 1 times 2\n \n", 1, 24, 1);
        fault("group 5;put 1;put", 1, 17, 2);
        fault("group 5;put 1" + blanks(286), 1, 299, 1);
        fault("group 5;put 1" + blanks(287), 1, 300, 1);
        fault("group 5" + blanks(293), 1, 300, 0);
        T.sentence(TERMS, "300, if there are more and no FAULT is ahead");
        fault("group 5;put 1" + blanks(288), 1, 300, 1);
        fault("group 5;put 1" + blanks(287) + ";", 1, 300, 1);
        fault("group 5;put 1" + blanks(286) + "; ", 1, 300, 2);
        fault("group 5;put 1" + blanks(286) + ";?", 1, 300, 2);
        fault("group 5;" + blanks(332), 1, 300, 1);
        fault("group 5;" + blanks(292) + "put 1;", 1, 300, 1);
        fault("group 5;" + blanks(292) + "?", 1, 300, 1);
        fault("group 5" + blanks(295) + ";", 1, 300, 0);
        fault("group 5;" + blanks(291) + "? ", 1, 299, 1);
        fault("group 5;" + blanks(291) + ";;", 1, 299, 1);
        fault("group 5;put 5;" + blanks(326), 2, 12, 1);
        fault("?" + blanks(339), 1, 0, 0);
    }

    private static void tokensAtTheLimit() {
        T.sentence(TERMS, "TOKENS that begin ahead of it are read whole");
        fault("group 5;put" + blanks(288) + "12;", 2, 299, 1);
        fault("group 15;put" + blanks(287) + "12;", 1, 300, 1);
        fault("group 5;put" + blanks(288) + "1 ;", 1, 300, 1);
        fault("group 5;put" + blanks(288) + "1;;", 1, 300, 1);
        fault("group 5;put" + blanks(288) + "123;", 1, 299, 1);
        fault("group 5;put" + blanks(288) + "1a;", 1, 299, 1);
        fault("group 5;put" + blanks(289) + "9;", 1, 300, 1);
        fault("group 5;put 1;put 2 times" + blanks(274) + "12;", 2, 299, 2);
        fault("group 5;put 1;put 2 times" + blanks(274) + "11;", 1, 300, 2);
        fault("group" + blanks(294) + "25;", 2, 299, 0);
        fault("group" + blanks(294) + "24;", 1, 300, 0);
        fault("group" + blanks(294) + "2 ;", 1, 300, 0);
        fault("group 5;" + blanks(289) + "put 1;", 1, 300, 1);
        fault("group 5;" + blanks(289) + "puts 1;", 1, 297, 1);
        fault("group 5;" + blanks(290) + "put 1;", 1, 300, 1);
        fault("group 5;" + blanks(290) + "pus 1;", 1, 298, 1);
        fault("group 5;put 1" + blanks(286) + "times 13;", 1, 300, 1);
        fault("group 5;put 1" + blanks(286) + "timed 2;", 1, 299, 1);
        fault(blanks(299) + "group 1;", 1, 300, 0);
        fault(blanks(299) + "group5;", 1, 299, 0);
        fault(blanks(299) + "x".repeat(41), 1, 299, 0);
    }

    private static void numbersNotAsTold() {
        T.sentence(TERMS, "2 a NUMBER that is not as told (at it");
        fault("group  1;", 2, 7, 0);
        fault("group 3  9;", 2, 9, 0);
        fault("group 5;put  6;", 2, 13, 1);
        fault("group 5;put 1;put 1 times  14;", 2, 27, 2);
        T.sentence(TERMS, "M, too, if there would be more than 12 PLACES by it");
        good("group 5;put 1 times 11;put 2 times 1;", 3, 1, 1, 1, 1, 1, 1, 1, 1, 1, 1, 1, 2);
        fault("group 5;put 1 times 11;put 2 times 2;", 2, 35, 2);
        fault("group 5;put 1 times 12;put 2 times 1;", 2, 35, 2);
        fault("group 5;put 1;put 2 times 12;", 2, 26, 2);
        fault("group 5;put 1;put 2;put 3 times 11;", 2, 32, 3);
        fault("group 5;put 1 times 12;put 2 times 1", 2, 35, 2);
        fault("group 5;put 1 times 12;put 2 times 0;", 2, 35, 2);
    }

    private static void thirteenthPlace() {
        T.sentence(TERMS, "3 a 13th PLACE without times (at 'put'");
        fault("group 2;" + "put 1;".repeat(13), 3, 80, 13);
        fault("group 5;put 1 times 12;put 2;", 3, 23, 2);
        fault("group 5;put 1 times 12; \n put 2;", 3, 26, 2);
        fault("group 5;put 1 times 12;put 2;put 3;", 3, 23, 2);
        T.sentence(TERMS, "behind all other FAULTS of its ROW and its ;");
        fault("group 5;put 1 times 12;put 5;", 2, 27, 2);
        fault("group 5;put 1 times 12;put;", 1, 26, 2);
        fault("group 5;put 1 times 12;put 1 1;", 1, 29, 2);
        fault("group 5;put 1 times 12;put 1 times;", 1, 34, 2);
        fault("group 5;put 1 times 12;put 1", 1, 28, 2);
        fault("group 5;put 1 times 12;put 1 put 1;", 1, 29, 2);
        fault("group 5;put 1 times 12;put 1;put 5;", 3, 23, 2);
        fault("group 5;put 1 times 12;put 1;?", 3, 23, 2);
        fault("group 5;put 1 times 12;put 1" + blanks(271) + "; ", 3, 23, 2);
        fault("group 5;put 1 times 12;put 1" + blanks(272) + ";", 1, 300, 2);
    }

    // ---- promise 1

    private static void newObject() {
        T.sentence("promise 1", "No GROUP (no ELEMENTS, no PLACES); an empty tape.");
        NoughtSums x = new NoughtSums();
        T.due("all told", "[0 0 0 0 -1 0 0 parts -1 -1 -1 -1 row" + " -1".repeat(13) + " fault 0 -1]", States.told(x));
        for (int g = -1; g <= 1; g++) {
            int[] none = {x.add(g, 0), x.add(0, g), x.found(g, 0), x.ways(g, 0), x.exactly(g, 0), x.run(g, 0),
                x.signed(g), x.sign(g, 0), x.come(g)};
            for (int i = 0; i < none.length; i++) {
                T.due("no element " + g + ", " + i, NONE, none[i]);
            }
        }
        int[] none = {x.like(0), x.go(0), x.times(1), x.atoms(0), x.atoms(1), x.atom(0), x.frees(0), x.longest(),
            x.longestAt(0), x.enough(), x.undo(), Tester.sum(x, 1) == Tester.THROWS ? NONE : 0};
        for (int i = 0; i < none.length; i++) {
            T.due("no place, no group, " + i, NONE, none[i]);
        }
        T.due("sums()", 0, x.sums());
        T.due("free(2)", 0, x.free(2));
        T.due("sort()", 0, x.sort());
        T.due("drawn(60, 1)", 0, x.drawn(60, 1));
        T.due("end(1)", false, x.end(1));
        T.due("restore(0)", false, x.restore(0));
        T.due("restore(1)", false, x.restore(1));
    }

    // ---- promises 2 and 3

    private static void feeding() {
        T.sentence("promise 2", "Twenty bytes come behind the tape, of each number the highest first");
        NoughtSums x = new NoughtSums();
        x.feed(0x67726F75, 0x70203137, 0x3B707574, 0x20312074, 0x696D6573);
        x.feed(0x20313130, 0x3B3B3B3B, -1, -1, -1);
        x.end(23);
        x.feed(0x203B2020, 0x20202020, 0x20202020, 0x0A0A0A0A, 0x0A0A0A0A);
        T.due("text", 2, x.text());
        T.row("fed", x, 1, 1, 1, 1, 1, 1, 1, 1, 1, 1, 1);
        x.feed(0x67726F75, 0x70203520, 0xFF203B3B, 0, 0);
        T.due("a byte of 255", -9, x.text());
        x.feed(0x67726F75, 0x7020353B, 0x80000000, 0, 0);
        T.due("a byte of 128", -9, x.text());
        T.sentence("promise 2", "how many it has; NONE, and none come, if it would have more than 340.");
        x = new NoughtSums();
        for (int n = 20; n <= 340; n += 20) {
            T.due("feed", n, x.feed(0, 0, 0, 0, 0));
        }
        for (int n = 340; n > 320; n--) {
            T.due("end(" + n + ")", true, x.end(n));
            T.due("feed at " + n, NONE, x.feed(0x20202020, 0, 0, 0, 0));
            T.due("tape at " + n, n, x.now(6));
        }
        x.end(320);
        T.due("feed at 320", 340, x.feed(0, 0, 0, 0, 0));
        States.unchanged(T, "feed() on a tape of 340", States::full, y -> y.feed(1, 2, 3, 4, 5));
    }

    private static void ending() {
        T.sentence("promise 3", "The tape has its first n bytes alone: true");
        NoughtSums x = new NoughtSums();
        T.due("end(0) of none", true, x.end(0));
        x.feed(0x67726F75, 0x70203B3B, 0x3B3B3B3B, 0, 0);
        T.due("end(20) of 20", true, x.end(20));
        T.due("tape", 20, x.now(6));
        T.due("end(6) of 20", true, x.end(6));
        T.due("tape", 6, x.now(6));
        T.due("feed behind", 26, x.feed(0x373B0000, 0, 0, 0, 0));
        T.due("end(8) of 26", true, x.end(8));
        T.due("text", 1, x.text());
        T.due("part", 7, x.part(0));
        x.feed(1, 2, 3, 4, 5);
        T.due("end(0) of 20", true, x.end(0));
        T.due("tape", 0, x.now(6));
        T.sentence("promise 3", "false, if it has not so many, or n is below 0");
        T.due("end(1) of none", false, x.end(1));
        x.feed(0x67726F75, 0x7020353B, 0x20202020, 0x20202020, 0x20202020);
        for (int n : new int[] {-1, -20, Integer.MIN_VALUE, 21, 340, 341, Integer.MAX_VALUE}) {
            T.due("end(" + n + ") of 20", false, x.end(n));
            T.due("tape", 20, x.now(6));
        }
        x.end(8);
        T.due("end(9) of 8", false, x.end(9));
        T.due("tape still", 8, x.now(6));
        T.due("text", 1, x.text());
    }

    // ---- promises 4 and 5

    private static void reading() {
        T.sentence("promise 4", "The tape (empty then, even with a FAULT)");
        NoughtSums x = new NoughtSums();
        for (String text : new String[] {"group 5;", "group 1;", "?", "group 5;" + blanks(300), ""}) {
            Tester.read(x, text);
            T.due("tape behind " + text, 0, x.now(6));
            T.due("end(1) behind " + text, false, x.end(1));
        }
        T.sentence("promise 4", "(an empty one: none)");
        for (String text : new String[] {"", " ", " \n ", blanks(300)}) {
            x = States.midway();
            T.due("text of " + text.length() + " blanks", 0, Tester.read(x, text));
            T.due("all told", "[0 0 0 0 -1 0 0 parts -1 -1 -1 -1 row" + " -1".repeat(13) + " fault 0 -1]",
                States.told(x));
            T.due("come", NONE, x.come(0));
            T.due("enough", NONE, x.enough());
            T.due("frees", NONE, x.frees(0));
        }
        T.sentence("promise 4", "how many ROWS");
        good("group 5;", 1);
        good("group 2 2 2;put 1 1 1;", 2, 7);
        good("group 5;put 1 times 12;", 2, 1, 1, 1, 1, 1, 1, 1, 1, 1, 1, 1, 1);
        good("group 5;put 1;put 1;", 3, 1, 1);
        T.sentence("promise 4", "-1 less the place of a FAULT: all stays.");
        fault("?", 1, 0, 0);
        fault(blanks(301), 1, 300, 0);
        for (String text : new String[] {"put 1;", "group 7;put 3;put 7;", "group 7;put 3;put 4", "group 7;" + blanks(300),
            "group 3;put 1 times 12;put 2;"}) {
            x = States.midway();
            Tester.read(x, text);
            NoughtSums y = States.midway();
            Tester.read(y, "group 5;put 9;");
            T.due("what stays but for the fault, " + text, withoutFault(States.spent(y)), withoutFault(States.spent(x)));
        }
        T.sentence("Terms 2", "A new TEXT: nothing can be undone.");
        for (String text : new String[] {"group 2 4;", "group 2 4;put 1 3;", "", " "}) {
            x = States.midway();
            T.due("acts ahead", 2, x.now(5));
            Tester.read(x, text);
            T.due("acts behind " + text, 0, x.now(5));
            T.due("undo behind " + text, NONE, x.undo());
        }
    }

    private static String withoutFault(String told) {
        return told.replaceAll("fault -?\\d+ -?\\d+", "");
    }

    private static void faultTold() {
        T.sentence("promise 5", "Of the latest text() the FAULT's kind (0), in which ROW of the text it is (1; from 0).");
        NoughtSums x = new NoughtSums();
        String[] texts = {"put 1;", "group 5;;", "group 1;", "group 5;put 1;put 6;", "group 5;put 1 times 12;put 1;"};
        int[][] due = {{1, 0}, {1, 1}, {2, 0}, {2, 2}, {3, 2}};
        for (int i = 0; i < texts.length; i++) {
            Tester.read(x, texts[i]);
            T.due("kind of " + texts[i], due[i][0], x.fault(0));
            T.due("row of " + texts[i], due[i][1], x.fault(1));
        }
        Tester.put(x, "group 5;");
        x.end(7);
        T.due("kind, ahead of the next text()", 3, x.fault(0));
        T.sentence("promise 5", "NONE for another what");
        for (int what : new int[] {-1, 2, 3, Integer.MIN_VALUE, Integer.MAX_VALUE}) {
            T.due("fault(" + what + ")", NONE, x.fault(what));
            T.due("fault(" + what + ") of a new object", NONE, new NoughtSums().fault(what));
        }
        T.sentence("promise 5", "0 and NONE without a FAULT and ahead of any.");
        T.due("ahead of any, 0", 0, new NoughtSums().fault(0));
        T.due("ahead of any, 1", NONE, new NoughtSums().fault(1));
        for (String text : new String[] {"group 5;", "", "group 5;put 1;", " "}) {
            Tester.read(x, "group 5;?");
            Tester.read(x, text);
            T.due("without a fault, 0", 0, x.fault(0));
            T.due("without a fault, 1", NONE, x.fault(1));
        }
    }

    // ---- promises 6, 7, 8

    private static void whatStands() {
        NoughtSums x = Tester.of("group 2 4;");
        T.sentence("promise 6", "0 PARTS, 1 ORDER (0 without a GROUP), 2 EXPONENT (0)");
        for (int what = 0; what < 3; what++) {
            T.due("now(" + what + ") without a group", 0, new NoughtSums().now(what));
        }
        int[][] due = {{1, 2, 2}, {1, 24, 24}, {2, 4, 2}, {2, 24, 12}, {3, 8, 2}, {3, 24, 12}};
        String[] groups = {"2", "24", "2 2", "2 12", "2 2 2", "2 3 4"};
        for (int i = 0; i < groups.length; i++) {
            NoughtSums y = Tester.of("group " + groups[i] + ";");
            for (int what = 0; what < 3; what++) {
                T.due("now(" + what + ") of " + groups[i], due[i][what], y.now(what));
            }
        }
        T.sentence("promise 6", "4 SUM of all PLACES (NONE: there are none)");
        T.due("of no places", NONE, x.now(4));
        x.come(0);
        T.due("of nought", 0, x.now(4));
        x.come(7);
        x.come(5);
        T.due("of 0 7 5", 0, x.now(4));
        for (int i = 0; i < 3; i++) {
            x.go(0);
        }
        T.due("when all are gone", NONE, x.now(4));
        T.sentence("promise 6", "3 PLACES");
        T.due("none", 0, x.now(3));
        T.due("all", 12, States.full().now(3));
        T.sentence("promise 6", "5 acts that can be undone");
        T.due("none", 0, new NoughtSums().now(5));
        T.due("two", 2, States.midway().now(5));
        T.due("nine were done", 8, States.full().now(5));
        T.sentence("promise 6", "6 bytes of the tape");
        T.due("none", 0, x.now(6));
        T.due("all", 340, States.full().now(6));
        T.sentence("promise 6", "NONE for another what");
        for (int what : new int[] {-1, 7, 8, Integer.MIN_VALUE, Integer.MAX_VALUE}) {
            T.due("now(" + what + ")", NONE, x.now(what));
            T.due("now(" + what + ") of a new object", NONE, new NoughtSums().now(what));
        }
        T.sentence("promise 7", "The i-th PART (from 0); NONE: none such.");
        x = Tester.of("group 2 3 4;");
        int[] parts = {2, 3, 4, NONE};
        for (int i = 0; i < parts.length; i++) {
            T.due("part(" + i + ")", parts[i], x.part(i));
        }
        for (int i : new int[] {-1, 4, 31, 32, Integer.MIN_VALUE, Integer.MAX_VALUE}) {
            T.due("part(" + i + ")", NONE, x.part(i));
        }
        Tester.read(x, "group 24;");
        T.due("part(0) of one", 24, x.part(0));
        T.due("part(1) of one", NONE, x.part(1));
        T.due("part(0) of none", NONE, new NoughtSums().part(0));
        T.sentence("promise 8", "The ELEMENT at a PLACE; NONE: none such.");
        x = States.full();
        T.due("at(0)", 23, x.at(0));
        T.due("at(11)", 2, x.at(11));
        for (int place : new int[] {-1, 12, 13, Integer.MIN_VALUE, Integer.MAX_VALUE}) {
            T.due("at(" + place + ")", NONE, x.at(place));
        }
        x.go(11);
        T.due("at(11) when it is gone", NONE, x.at(11));
        T.due("at(0) of no places", NONE, States.bare().at(0));
    }
}
