/** Boundary cases of promises 41 to 46 and of the terms E, each by the document's words. */
public final class RatesEdgesTest {
    private static final int FAR_BELOW = Integer.MIN_VALUE;
    private static final int FAR_ABOVE = Integer.MAX_VALUE;
    private static final long MOST = 100000000L;

    public static void main(String[] args) {
        typeHowMany();
        typeSigns();
        typeHighestFirst();
        typeFourHundred();
        rateNoSuchRow();
        rateBadKeeps();
        rateAnswers();
        rateParts();
        rateBlanks();
        rateNumbers();
        rateWholes();
        rateWords();
        rateUnits();
        rateEndsTooEarly();
        rateStepRows();
        rateStepRowsWrongWithin();
        rateSixtyNodes();
        rateTwelveDeep();
        rateStepCountsNone();
        nodeNoneSuch();
        nodeFacts();
        nodeOrder();
        printNoneSuch();
        printNumbers();
        printForms();
        printedEdges();
        worthArguments();
        worthUnits();
        worthValues();
        worthSteps();
        worthNotBelowZero();
        worthGreatest();
        Check.end();
    }

    /** Row 1 has a rate, row 2 has none; "9/B" is on the tape, and the rate of row 1 is printed. */
    private static PortHouse taped() {
        PortHouse x = emptied();
        Tape.type(x, "9/B");
        return x;
    }

    private static final Edge.House TAPED = RatesEdgesTest::taped;

    /** The same with an empty tape. */
    private static PortHouse emptied() {
        PortHouse x = new PortHouse(1, 1, 1, 1, 1);
        x.row(12, PortHouse.ALL, 0, PortHouse.OPEN, 4, 0, 0);
        x.row(13, PortHouse.ALL, 0, PortHouse.OPEN, 4, 0, 0);
        Check.due(3, Tape.rate(x, 1, "5%+2/C"));
        Check.due(8, x.print(1));
        return x;
    }

    private static void good(int nodes, String text) {
        Edge.at(text);
        PortHouse x = emptied();
        Check.due(nodes, Tape.rate(x, 2, text));
        Check.due(nodes, countNodes(x));
    }

    private static int countNodes(PortHouse x) {
        int n = 0;
        for (boolean is = true; is && n < 100; n += is ? 1 : 0) {
            try {
                x.node(2, n, 0);
            } catch (IndexOutOfBoundsException e) {
                is = false;
            }
        }
        return n;
    }

    /** A bad text: the place, the tape empty, the row as it was. */
    private static void bad(int place, String text) {
        Edge.at(text);
        Edge.alike(RatesEdgesTest::emptied, () -> {
            PortHouse y = emptied();
            Check.due(-1 - place, Tape.rate(y, 1, text));
            return y;
        });
    }

    // ---- promise 41

    private static void typeHowMany() {
        Edge.of(41, "The n (1 .. 8) lowest bytes of word .. false, changing nothing, for another n");
        for (int n : new int[] {FAR_BELOW, -1, 0, 9, 16, FAR_ABOVE}) {
            Edge.refused(TAPED, x -> x.type(0x2020202020202020L, n));
        }
        for (int n = 1; n <= 8; n++) {
            PortHouse x = taped();
            Check.due(true, x.type(0x2020202020202020L, n));
            Check.due(3 + n, x.count(17));
        }
    }

    private static void typeSigns() {
        Edge.of(41, "a byte that is none of those");
        for (int place = 0; place < 8; place++) {
            for (int sign : new int[] {0, 9, 31, 127, 128, 160, 255}) {
                long word = 0x2020202020202020L & ~(255L << 8 * place) | (long) sign << 8 * place;
                Edge.refused(TAPED, x -> x.type(word, 8));
                int n = place + 1;
                Edge.refused(TAPED, x -> x.type(word, n));
                if (place > 0) {
                    Check.due(true, taped().type(word, place));
                }
            }
            for (int sign : new int[] {32, 126}) {
                long word = 0x2020202020202020L & ~(255L << 8 * place) | (long) sign << 8 * place;
                Check.due(true, taped().type(word, 8));
            }
        }
        Edge.of(41, "The n .. lowest bytes of word: those above are not looked at");
        Check.due(true, taped().type(0xFFFFFFFFFFFFFF20L, 1));
        Check.due(true, taped().type(0x0000000000002020L, 2));
        Edge.refused(TAPED, x -> x.type(-1L, 8));
        Edge.refused(TAPED, x -> x.type(0L, 1));
    }

    private static void typeHighestFirst() {
        Edge.of(41, "the highest first, come behind the TAPE");
        PortHouse x = emptied();
        x.type('m' << 16 | 'i' << 8 | 'n', 3);
        x.type(0x28313125_2C32322FL, 8);
        x.type('D' << 8 | ')', 2);
        Check.due(13, x.count(17));
        Check.due(3, x.rate(2));
        Check.due("min(11%, 22/D)", Tape.printed(x, 2));
    }

    private static PortHouse tapeOf(int signs) {
        PortHouse x = emptied();
        Tape.type(x, " ".repeat(signs - 4) + "free");
        return x;
    }

    private static void typeFourHundred() {
        Edge.of(41, "or if it would have more than 400");
        for (int n = 1; n <= 8; n++) {
            int some = n;
            PortHouse x = tapeOf(400 - n);
            Check.due(true, x.type(0x2020202020202020L, n));
            Check.due(400, x.count(17));
            Edge.refused(() -> tapeOf(401 - some), y -> y.type(0x2020202020202020L, some));
        }
        Edge.House full = () -> tapeOf(400);
        Edge.refused(full, x -> x.type(0x20L, 1));
        PortHouse x = full.make();
        x.type(0x25L, 1);
        Check.due(1, x.rate(2));
        Check.due(0, x.count(17));
        Check.due(true, x.type(0x20L, 1));
    }

    // ---- promise 42

    private static void rateNoSuchRow() {
        Edge.of(42, "IllegalArgumentException if there is no such row");
        for (int none : new int[] {FAR_BELOW, -1, 0, 3, FAR_ABOVE}) {
            PortHouse x = taped();
            Check.thrown(Check.ARGUMENT, () -> x.rate(none));
            Edge.of(42, "The TAPE, which is empty then in any case (also if this throws)");
            Edge.alike(RatesEdgesTest::emptied, () -> {
                PortHouse y = taped();
                Check.thrown(Check.ARGUMENT, () -> y.rate(none));
                return y;
            });
        }
    }

    private static void rateBadKeeps() {
        Edge.of(42, "else -1 minus the least bad place (then the row has what it had)");
        bad(0, "x");
        bad(2, "7%7%");
        bad(5, "free+");
        PortHouse none = emptied();
        Check.due(-1, Tape.rate(none, 2, "x"));
        Check.thrown(Check.ARGUMENT, () -> none.print(2));
        Check.thrown(Check.INDEX, () -> none.node(2, 0, 0));
        Edge.of(42, "The TAPE, which is empty then in any case");
        Check.due(-1, none.rate(1));
        Check.due("5% + 2/C", Tape.printed(none, 1));
        Edge.of(42, "is the RATE of a row: that of before is gone");
        Check.due(1, Tape.rate(none, 1, "free"));
        Check.due("free", Tape.printed(none, 1));
    }

    private static void rateAnswers() {
        Edge.of(42, "how many nodes it has");
        good(1, "free");
        good(3, "free+free");
        good(3, "min(free,free)");
        good(5, "free - free + free");
        good(1, "((free))");
    }

    private static void rateParts() {
        Edge.term(42, "RATE: a PART, and behind it any times + or - and a PART");
        bad(0, "+free");
        bad(5, "free++free");
        bad(5, "free+-free");
        bad(5, "free free");
        bad(4, "free*free");
        bad(4, "free)");
        bad(4, "free,free");
        bad(2, "5%6%");
        Edge.term(42, "PART: free; NUMBER %; NUMBER / UNIT; ( RATE ); min ( RATE , RATE ); max ( RATE , RATE )");
        bad(0, ")");
        bad(1, "()");
        bad(1, "5");
        bad(1, "5+5%");
        bad(5, "(free}");
        bad(5, "(free,free)");
        bad(6, "min(1%)");
        bad(9, "min(1%,2%,3%)");
        bad(4, "min(,2%)");
        bad(7, "max(1%,)");
        bad(3, "max[1%,2%]");
        bad(4, "min 1%");
    }

    private static void rateBlanks() {
        Edge.term(42, "BLANKS (32) may stand between what is told below, not within numbers and words");
        good(3, "  5  %  +  2  /  C  ");
        good(5, " min ( ( 5 % ) , max ( 1 / A , free ) ) ");
        good(1, " step ( 10 : 1 = 2 , 3 = 4 ) ");
        bad(2, "1 2%");
        bad(0, "fr ee");
        bad(0, "mi n(1%,2%)");
        bad(2, "1 .5%");
        bad(9, "step(100 0: 1=1)");
        bad(9, "step(1:1 0=1)");
        bad(1, " ");
        bad(400, " ".repeat(400));
    }

    private static void rateNumbers() {
        Edge.term(42, "NUMBER: 1 to 5 digits, and perhaps . and 1 to 3 digits");
        good(1, "1%");
        good(1, "12345%");
        good(1, "12345.1%");
        good(1, "12345.123%");
        Edge.term(42, "the first sign of a .. number that is none or too long, also behind its point");
        bad(0, "123456%");
        bad(0, "123456.1%");
        bad(0, "000001%");
        bad(0, "1.1234%");
        bad(0, "1.0000/A");
        bad(0, ".5%");
        bad(6, "free +123456%");
        bad(6, "free +12345.1234%");
        Edge.term(42, "or whose point is the text's last sign");
        bad(0, "1.");
        bad(5, "free+12345.");
        bad(4, "min(1.");
        Edge.term(42, "All digits .. one behind the other are one number");
        bad(3, "1.5.5%");
        bad(1, "5a%");
    }

    private static void rateWholes() {
        Edge.term(42, "WHOLE: 1 to 6 digits");
        good(1, "step(1:1=1)");
        good(1, "step(999999:999999=999999)");
        good(1, "step(000000:000000=000000)");
        bad(5, "step(1234567:1=1)");
        bad(7, "step(1:1234567=1)");
        bad(9, "step(1:1=1234567)");
        bad(5, "step(:1=1)");
        bad(7, "step(1:=1)");
        bad(9, "step(1:1=)");
        bad(5, "step(x:1=1)");
        bad(6, "step(1.5:1=1)");
        bad(8, "step(1:1.5=1)");
        bad(10, "step(1:1=1.5)");
        bad(6, "step(1)");
        bad(7, "step(1:)");
        bad(8, "step(1:1)");
        bad(4, "step");
        bad(4, "step:");
    }

    private static void rateWords() {
        Edge.term(42, "the first sign of a word .. that is none or too long");
        bad(0, "fre");
        bad(0, "freee");
        bad(0, "freez");
        bad(0, "afree");
        bad(0, "frees");
        bad(0, "mi(1%,2%)");
        bad(0, "minn(1%,2%)");
        bad(0, "steps(1:1=1)");
        bad(0, "a");
        bad(3, "5%+abc");
        Edge.term(42, "All .. small letters, one behind the other are one .. word");
        bad(0, "freemin(1%,2%)");
        bad(4, "free5%");
        Edge.term(42, "Words have small letters");
        bad(0, "FREE");
        bad(0, "Free");
        bad(0, "freE");
        bad(0, "MIN(1%,2%)");
    }

    private static void rateUnits() {
        Edge.term(42, "UNIT: a letter A to H");
        for (char unit = 'A'; unit <= 'H'; unit++) {
            good(1, "1/" + unit);
        }
        bad(2, "1/@");
        bad(2, "1/I");
        bad(2, "1/a");
        bad(2, "1/h");
        bad(2, "1/Z");
        bad(2, "1/1");
        bad(2, "1/%");
        bad(3, "1/AA");
    }

    private static void rateEndsTooEarly() {
        Edge.term(42, "the text's length if it ends too early");
        String[] whole = {"12.5%", "2/C", "(free)", "5%+6%", "min(1%,2%)", "max(1% , 2/A)", "step(10:1=2,3=4)"};
        for (String text : whole) {
            for (int n = 0; n < text.length(); n++) {
                String some = text.substring(0, n);
                int at = placeOfTooShort(some);
                if (at >= 0) {
                    bad(at, some);
                }
            }
        }
        bad(6, "(free ");
        bad(4, "5%+ ");
    }

    // Words that are cut are none, at their first sign; so are numbers that end with their point. What is a whole rate
    // already is no bad text: -1.
    private static int placeOfTooShort(String text) {
        int n = text.length();
        if (n > 0 && text.charAt(n - 1) == '.') {
            return 0;
        }
        int start = n;
        while (start > 0 && Character.isLowerCase(text.charAt(start - 1))) {
            start--;
        }
        String word = text.substring(start);
        boolean isWord = word.isEmpty() || word.equals("free") || word.equals("min") || word.equals("max")
                || word.equals("step");
        if (!isWord) {
            return start;
        }
        return text.equals("5%") ? -1 : n;
    }

    private static void rateStepRows() {
        Edge.term(42, "ROWS are WHOLE = WHOLE with , between them (1 to 6, the first numbers rise)");
        StringBuilder rows = new StringBuilder("step(1:1=1");
        good(1, rows + ")");
        for (int n = 2; n <= 6; n++) {
            rows.append(",").append(n).append("=1");
            good(1, rows + ")");
        }
        Edge.term(42, "a row that .. is the seventh, at its first number");
        bad(31, rows + ",7=1)");
        bad(32, rows + ", 7 = 1)");
        bad(31, rows + ",1=1)");
        Edge.term(42, "a row that does not rise .. at its first number");
        good(1, "step(1:0=9,1=8,999999=7)");
        bad(11, "step(1:5=1,5=1)");
        bad(11, "step(1:5=1,4=1)");
        bad(11, "step(1:5=1,05=1)");
        bad(15, "step(1:5=1,6=1,6=1)");
        bad(15, "step(1:5=1,9=1,7=1)");
        bad(12, "step(1:5=1, 5=1, 4=1)");
    }

    private static void rateStepRowsWrongWithin() {
        Edge.term(42, "a row that does not rise, or is the seventh .. behind what is wrong within it");
        bad(12, "step(1:5=1,4)");
        bad(13, "step(1:5=1,4=)");
        bad(13, "step(1:5=1,4=1234567)");
        bad(11, "step(1:5=1,x=1)");
        bad(11, "step(1:5=1,)");
        String six = "step(1:1=1,2=1,3=1,4=1,5=1,6=1";
        bad(32, six + ",7)");
        bad(33, six + ",7=)");
        bad(31, six + ",)");
        bad(31, six + ",1234567=1)");
        bad(30, six + ";7=1)");
        bad(30, six);
    }

    // So many parts with + between them: 2 n - 1 nodes.
    private static String chain(int parts) {
        return "1%" + "+1%".repeat(parts - 1);
    }

    private static void rateSixtyNodes() {
        Edge.term(42, "THE TREE has NODES (60 at most)");
        good(57, chain(29));
        good(59, chain(30));
        Edge.term(42, "the sign that would be the 61st node's first, nodes counted as the text goes");
        bad(90, chain(31));
        bad(90, chain(30) + "+free");
        bad(90, chain(30) + "-min(1%,2%)");
        bad(91, chain(30) + "+ step(1:1=1)");
        bad(92, chain(30) + "+ (1%)");
        bad(90, chain(40));
        Edge.term(42, "SUM and DIFFERENCE at their sign");
        bad(93, "min(" + chain(31) + ",1%)");
        bad(93, "max(" + chain(30) + "-1%,1%)");
        bad(95, "min( " + chain(30) + " +1%,1%)");
        Edge.term(42, "nodes .. : what is wrong ahead of the 61st is told");
        bad(89, chain(30) + "*1%");
        bad(88, chain(29) + "+1,+1%+1%");
    }

    private static void rateTwelveDeep() {
        Edge.term(42, "nested 12 deep at most: each of (, min, max that is open counts one");
        good(1, "(".repeat(12) + "free" + ")".repeat(12));
        good(25, "min(".repeat(12) + "free" + ",1%)".repeat(12));
        good(25, "max(1%,".repeat(12) + "free" + ")".repeat(12));
        good(13, "(min(1%,".repeat(6) + "free" + "))".repeat(6));
        Edge.term(42, "or the 13th deep bracket or word");
        bad(12, "(".repeat(13) + "free" + ")".repeat(13));
        bad(48, "min(".repeat(13) + "free" + ",1%)".repeat(13));
        bad(84, "max(1%,".repeat(13) + "free" + ")".repeat(13));
        bad(12, "(".repeat(12) + "min(1%,2%)" + ")".repeat(12));
        bad(12, "(".repeat(12) + "max");
        bad(13, "(".repeat(12) + " (");
        bad(17, "(".repeat(12) + "free+(free)" + ")".repeat(12));
        Edge.term(42, "that is open: one that is closed counts no more");
        good(3, "(".repeat(12) + "free" + ")".repeat(12) + "+" + "(".repeat(12) + "free" + ")".repeat(12));
        good(3, "(".repeat(11) + "(free)+(free)" + ")".repeat(11));
    }

    private static void rateStepCountsNone() {
        Edge.term(42, "step's bracket none");
        good(1, "(".repeat(12) + "step(1:1=1)" + ")".repeat(12));
        good(3, "(".repeat(11) + "min(step(1:1=1),free)" + ")".repeat(11));
    }

    // ---- promise 43

    private static void nodeNoneSuch() {
        Edge.of(43, "IndexOutOfBoundsException if there is none such");
        for (int row : new int[] {FAR_BELOW, -1, 0, 2, 3, FAR_ABOVE}) {
            Edge.thrown(Check.INDEX, TAPED, x -> x.node(row, 0, 0));
        }
        for (int i : new int[] {FAR_BELOW, -1, 3, 60, FAR_ABOVE}) {
            Edge.thrown(Check.INDEX, TAPED, x -> x.node(1, i, 0));
        }
        Edge.of(43, "or no such what");
        for (int what : new int[] {FAR_BELOW, -1, 6, FAR_ABOVE}) {
            Edge.thrown(Check.INDEX, TAPED, x -> x.node(1, 0, what));
        }
        Edge.answered(3, TAPED, x -> x.node(1, 0, 0));
        Edge.answered(2, TAPED, x -> x.node(1, 2, 0));
        Edge.answered(0, TAPED, x -> x.node(1, 2, 5));
    }

    private static void facts(PortHouse x, int i, int... due) {
        for (int what = 0; what < due.length; what++) {
            Check.due(due[what], x.node(2, i, what));
        }
    }

    private static void nodeFacts() {
        Edge.of(43, "what 0: its kind, 1: its NUMBER in thousandths, or the entry price (0 else), 2: its unit (0 A .. 7"
                + " H; NONE else), 3, 4: the nodes below it on the left and right (NONE else), 5: rows of STEPS (0"
                + " else)");
        PortHouse x = emptied();
        Tape.rate(x, 2, "max(99999.999%, 0.001/A) + 5/H - min(free, step(999999: 0=1, 1=2))");
        facts(x, 0, 4, 0, -1, 1, 6, 0);
        facts(x, 1, 3, 0, -1, 2, 5, 0);
        facts(x, 2, 6, 0, -1, 3, 4, 0);
        facts(x, 3, 1, 99999999, -1, -1, -1, 0);
        facts(x, 4, 2, 1, 0, -1, -1, 0);
        facts(x, 5, 2, 5000, 7, -1, -1, 0);
        facts(x, 6, 5, 0, -1, 7, 8, 0);
        facts(x, 7, 0, 0, -1, -1, -1, 0);
        facts(x, 8, 7, 999999, -1, -1, -1, 2);
        Check.thrown(Check.INDEX, () -> x.node(2, 9, 0));
        Edge.of(43, "1: its NUMBER in thousandths");
        String[] numbers = {"1.5%", "1.05%", "1.005%", "1.55%", "0.5/A", "10.25/A", "99999.9%"};
        int[] thousandths = {1500, 1050, 1005, 1550, 500, 10250, 99999900};
        for (int i = 0; i < numbers.length; i++) {
            Tape.rate(x, 2, numbers[i]);
            Check.due(thousandths[i], x.node(2, 0, 1));
        }
        Edge.of(43, "5: rows of STEPS (0 else)");
        for (int rows = 1; rows <= 6; rows++) {
            StringBuilder s = new StringBuilder("step(0:0=0");
            for (int i = 1; i < rows; i++) {
                s.append(",").append(i).append("=0");
            }
            Tape.rate(x, 2, s + ")");
            facts(x, 0, 7, 0, -1, -1, -1, rows);
            Tape.rate(x, 2, "free");
            facts(x, 0, 0, 0, -1, -1, -1, 0);
        }
    }

    private static void nodeOrder() {
        Edge.term(43, "each one ahead of those below it, those of the left side ahead of the right side's");
        PortHouse x = emptied();
        Tape.rate(x, 2, "(1% + 2%) - (3% + 4%)");
        int[][] due = {{4, 0, -1, 1, 4}, {3, 0, -1, 2, 3}, {1, 1000}, {1, 2000}, {3, 0, -1, 5, 6}, {1, 3000},
            {1, 4000}};
        for (int i = 0; i < due.length; i++) {
            facts(x, i, due[i]);
        }
        Edge.term(43, "+ and - go from the left: a - b + c is the SUM of the DIFFERENCE and c");
        Tape.rate(x, 2, "1% - 2% + 3%");
        int[][] left = {{3, 0, -1, 1, 4}, {4, 0, -1, 2, 3}, {1, 1000}, {1, 2000}, {1, 3000}};
        for (int i = 0; i < left.length; i++) {
            facts(x, i, left[i]);
        }
    }

    // ---- promises 44, 45

    private static void printNoneSuch() {
        Edge.of(44, "IllegalArgumentException if there is no such row");
        for (int none : new int[] {FAR_BELOW, -1, 0, 3, FAR_ABOVE}) {
            Edge.thrown(Check.ARGUMENT, TAPED, x -> x.print(none));
        }
        Edge.of(44, "or it has none");
        Edge.thrown(Check.ARGUMENT, TAPED, x -> x.print(2));
        Edge.of(45, "what was printed last: one that threw printed nothing");
        PortHouse x = taped();
        Check.thrown(Check.ARGUMENT, () -> x.print(2));
        Check.due(8, x.count(18));
        Check.due('5', x.printed(0));
    }

    private static void printsAs(String want, String text) {
        Edge.at(text);
        PortHouse x = emptied();
        Check.due(true, Tape.rate(x, 2, text) > 0);
        Check.due(want.length(), x.print(2));
        Check.due(want.length(), x.count(18));
        Check.due(want, Tape.printed(x, 2));
    }

    private static void printNumbers() {
        Edge.term(44, "NUMBER with the least digits that tell it (no 0 ahead but one, none behind a .)");
        printsAs("0%", "0%");
        printsAs("0%", "00000.000%");
        printsAs("0.001%", "0.001%");
        printsAs("0.01%", "0.010%");
        printsAs("0.1%", "0.100%");
        printsAs("0.101/A", "00.101/A");
        printsAs("10/H", "00010.0/H");
        printsAs("100.05/B", "100.050/B");
        printsAs("99999.999%", "99999.999%");
        printsAs("12345%", "12345%");
        printsAs("90000%", "90000.000%");
    }

    private static void printForms() {
        Edge.term(44, "a + b, a - b with a blank on both sides, b in ( ) if it is a SUM or DIFFERENCE");
        printsAs("1% + 2% - 3%", "1%+2%-3%");
        printsAs("1% + 2% - 3%", "((1%+2%)-3%)");
        printsAs("1% - (2% + 3%)", "1%-(2%+3%)");
        printsAs("1% + (2% - 3%)", "1%+((2%-3%))");
        printsAs("1% + min(2%, 3% + 4%)", "1%+(min(2%,(3%+4%)))");
        printsAs("free - free", "( free )-(free)");
        Edge.term(44, "min(a, b), max(a, b); step(e: p=c, p=c)");
        printsAs("min(max(1%, 2/A), free)", "min(max(1%,2/A),free)");
        printsAs("step(0: 0=0)", "step(000000:000000=000000)");
        printsAs("step(10: 1=2, 30=40, 999999=999999)", "step(10:1=2,30=040,999999=999999)");
    }

    private static void printedEdges() {
        Edge.of(45, "IndexOutOfBoundsException if there is none such");
        for (int none : new int[] {FAR_BELOW, -1, 8, 400, FAR_ABOVE}) {
            Edge.thrown(Check.INDEX, TAPED, x -> x.printed(none));
        }
        Edge.thrown(Check.INDEX, () -> new PortHouse(1, 1, 1, 1, 1), x -> x.printed(0));
        Edge.answered('5', TAPED, x -> x.printed(0));
        Edge.answered('C', TAPED, x -> x.printed(7));
        Edge.of(45, "Sign i of what was printed last");
        PortHouse x = emptied();
        Tape.rate(x, 2, "7%");
        Check.due('C', x.printed(7));
        Check.due(2, x.print(2));
        Check.due('7', x.printed(0));
        Check.due('%', x.printed(1));
        Check.thrown(Check.INDEX, () -> x.printed(2));
        Tape.rate(x, 2, "8/A");
        Check.due('7', x.printed(0));
    }

    // ---- promise 46

    private static void worthArguments() {
        Edge.of(46, "IllegalArgumentException if there is no such row, it has none");
        for (int row : new int[] {FAR_BELOW, -1, 0, 2, 3, FAR_ABOVE}) {
            Edge.thrown(Check.ARGUMENT, TAPED, x -> x.worth(row, 0, 2, 0));
        }
        Edge.of(46, "or no such price .. can be");
        for (long price : new long[] {Long.MIN_VALUE, -1, MOST + 1, Long.MAX_VALUE, 1L << 32}) {
            Edge.thrown(Check.ARGUMENT, TAPED, x -> x.worth(1, price, 2, 0));
        }
        Edge.of(46, "or no such .. unit .. can be");
        for (int unit : new int[] {FAR_BELOW, -1, 8, FAR_ABOVE}) {
            Edge.thrown(Check.ARGUMENT, TAPED, x -> x.worth(1, 0, unit, 0));
        }
        Edge.of(46, "or no such .. amount can be");
        for (long amount : new long[] {Long.MIN_VALUE, -1, MOST + 1, Long.MAX_VALUE, 1L << 32}) {
            Edge.thrown(Check.ARGUMENT, TAPED, x -> x.worth(1, 0, 2, amount));
        }
        Edge.answered(0, TAPED, x -> x.worth(1, 0, 2, 0));
        Edge.answered(5000000L * 1000000, TAPED, x -> x.worth(1, MOST, 2, 0));
        Edge.answered(2000L * MOST, TAPED, x -> x.worth(1, 0, 2, MOST));
    }

    private static void worthUnits() {
        Edge.of(46, "UnsupportedOperationException if another unit of it has no amount");
        for (int unit = 0; unit < 8; unit++) {
            int u = unit;
            if (unit == 2) {
                Edge.answered(5 * 10000 + 2000, TAPED, x -> x.worth(1, 1, u, 1));
            } else {
                Edge.thrown(Check.UNSUPPORTED, TAPED, x -> x.worth(1, 1, u, 1));
            }
        }
        Edge.of(46, "Of several exceptions the one told first is thrown");
        Edge.thrown(Check.ARGUMENT, TAPED, x -> x.worth(1, -1, 3, 1));
        PortHouse x = emptied();
        Tape.rate(x, 2, "5%");
        for (int unit = 0; unit < 8; unit++) {
            Check.due(5 * 10000, x.worth(2, 1, unit, 1));
        }
        Tape.rate(x, 2, "max(1/A, 1/H)");
        for (int unit = 0; unit < 8; unit++) {
            int u = unit;
            Check.thrown(Check.UNSUPPORTED, () -> x.worth(2, 1, u, 1));
        }
    }

    private static void worth(long want, String text, long price, long amount) {
        Edge.at(text + " of " + price + ", " + amount);
        PortHouse x = emptied();
        Check.due(true, Tape.rate(x, 2, text) > 0);
        Check.due(want, x.worth(2, price, 0, amount));
    }

    private static void worthValues() {
        Edge.term(46, "SHARE: price * NUMBER / 100, exactly");
        worth(0, "5%", 0, 0);
        worth(10, "0.001%", 1, 0);
        worth(1000000, "100%", 1, 0);
        worth(999999990L, "99999.999%", 1, 0);
        Edge.term(46, "BY UNIT: NUMBER cents for each whole unit: exactly");
        worth(1, "0.001/A", 0, 1);
        worth(1000000, "1/A", 0, 1000);
        worth(999000, "1/A", 0, 999);
        Edge.term(46, "SUM, DIFFERENCE, LEAST, GREATEST of both");
        worth(3, "0.001/A + 0.002/A", 0, 1);
        worth(1, "0.002/A - 0.001/A", 0, 1);
        worth(1, "min(0.002/A, 0.001/A)", 0, 1);
        worth(2, "max(0.002/A, 0.001/A)", 0, 1);
        worth(2, "min(0.002/A, 0.002/A)", 0, 1);
        worth(0, "free", MOST, MOST);
    }

    private static void worthSteps() {
        Edge.term(46, "q = entry price * 100 / price, rounded down: the cents of the last row whose first number is not"
                + " above q");
        String text = "step(1000: 50=7, 100=8, 101=9)";
        long[][] priceAndCents = {{2001, 0}, {2000, 7}, {1001, 7}, {1000, 8}, {991, 8}, {990, 9}, {1, 9}};
        for (long[] a : priceAndCents) {
            worth(a[1] * 1000000, text, a[0], 0);
        }
        worth(53000000, "step(1000: 50=7, 100=8) + step(500: 1=40, 50=45)", 1000, 0);
        worth(47000000, "step(1000: 50=7, 100=8) + step(500: 1=40, 50=45)", 1001, 0);
        Edge.term(46, "0 without such a row");
        worth(0, "step(1: 1=5)", 101, 0);
        worth(5000000, "step(1: 1=5)", 100, 0);
        worth(5000000, "step(1: 0=5)", MOST, 0);
        Edge.term(46, "the last row's if the price is 0");
        worth(9000000, text, 0, 0);
        worth(3000000, "step(0: 5=4, 999999=3)", 0, 0);
        worth(0, "step(0: 5=4, 999999=3)", 1, 0);
    }

    private static void worthNotBelowZero() {
        Edge.term(46, "THE RATE'S VALUE is that of node 0, but not below 0");
        worth(0, "1% - 2%", 100, 0);
        worth(0, "2% - 2%", 100, 0);
        worth(10000, "2% - 1%", 1, 0);
        Edge.term(46, "that of node 0: below it a value may be below 0");
        worth(10000, "1% - 2% + 2%", 1, 0);
        worth(30000, "2% - (1% - 2%)", 1, 0);
        worth(0, "max(1% - 2%, 1% - 3%)", 1, 0);
        worth(20000, "3% + min(1% - 2%, free)", 1, 0);
    }

    private static void worthGreatest() {
        Edge.of(46, "THE RATE'S VALUE of a row in micros: the greatest price and number");
        worth(99999999L * MOST * 10, "99999.999%", MOST, 0);
        worth(99999999L * MOST, "99999.999/A", 0, MOST);
        PortHouse x = emptied();
        Check.due(59, Tape.rate(x, 2, "99999.999%" + "+99999.999%".repeat(29)));
        Check.due(30 * 99999999L * MOST * 10, x.worth(2, MOST, 0, 0));
    }
}
