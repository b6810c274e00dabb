/** Boundary cases of promises 33 to 40 and of the terms D, each by the document's words. */
public final class MeasuresEdgesTest {
    private static final int FAR_BELOW = Integer.MIN_VALUE;
    private static final int FAR_ABOVE = Integer.MAX_VALUE;
    private static final int ALL = PortHouse.ALL;
    private static final int OPEN = PortHouse.OPEN;

    public static void main(String[] args) {
        memberNoneSuch();
        memberIsOne();
        memberInItself();
        memberLandsIn();
        rowCode();
        rowLand();
        rowDays();
        rowEndsAhead();
        rowKindAndRank();
        rowThreeHundred();
        clashDays();
        clashSame();
        clashLeast();
        clashByAllTold();
        excludeEdges();
        excludeFour();
        conditionEdges();
        conditionFour();
        endNoSuchRow();
        endDays();
        endAheadOfFirst();
        endEight();
        endExceptionsInTurn();
        endKnownLatest();
        endKnownAhead();
        papersBits();
        papersOneOfThem();
        applyArguments();
        applyKnown();
        applyDays();
        applyUnder();
        applyLands();
        applyBeats();
        applyKindsNotBeaten();
        applyListed();
        listedEdges();
        Check.end();
    }

    private static PortHouse house() {
        return new PortHouse(1, 1, 1, 1, 1);
    }

    /** Row 1 of 12, all lands, days 10 .. 20; row 2 of 123456, group 16 with the land 3, open; a list of both. */
    private static PortHouse measures() {
        PortHouse x = house();
        Check.due(1, x.row(12, ALL, 10, 20, 4, 3, 5));
        Check.due(2, x.row(123456, 16, 10, OPEN, 4, 3, 5));
        Check.due(true, x.member(16, 3));
        Check.due(2, x.apply(123456, 3, 10, 5));
        return x;
    }

    private static final Edge.House MEASURES = MeasuresEdgesTest::measures;

    private static String applying(PortHouse x, int code, int land, int day, int known) {
        StringBuilder s = new StringBuilder();
        for (int i = 0, n = x.apply(code, land, day, known); i < n; i++) {
            s.append(i > 0 ? " " : "").append(x.listed(i));
        }
        return s.toString();
    }

    // ---- promise 33

    private static void memberNoneSuch() {
        Edge.of(33, "false if there are none such");
        for (int group : new int[] {FAR_BELOW, -1, 0, 15, 24, 30, 31, 32, FAR_ABOVE}) {
            Edge.refused(MEASURES, x -> x.member(group, 5));
        }
        for (int land : new int[] {FAR_BELOW, -1, 24, 30, 31, 32, FAR_ABOVE}) {
            Edge.refused(MEASURES, x -> x.member(16, land));
        }
        for (int group : new int[] {16, 23}) {
            for (int land : new int[] {0, 15, group == 16 ? 23 : 16}) {
                Check.due(true, measures().member(group, land));
            }
        }
    }

    private static void memberIsOne() {
        Edge.of(33, "it is one");
        Edge.refused(MEASURES, x -> x.member(16, 3));
        Edge.House nested = () -> {
            PortHouse x = measures();
            Check.due(true, x.member(17, 16));
            return x;
        };
        Edge.refused(nested, x -> x.member(17, 16));
        Edge.of(33, "it is one: a land that is only IN the group by another one is no member yet");
        PortHouse x = nested.make();
        Check.due(1, x.count(617));
        Check.due(true, x.member(17, 3));
        Check.due(1, x.count(617));
        Check.due(false, x.member(17, 3));
    }

    private static void memberInItself() {
        Edge.of(33, "or it would bring a group that is in itself");
        for (int group = 16; group <= 23; group++) {
            int g = group;
            Edge.refused(MEASURES, x -> x.member(g, g));
        }
        Edge.House chain = () -> {
            PortHouse x = house();
            for (int g = 16; g < 23; g++) {
                Check.due(true, x.member(g, g + 1));
            }
            return x;
        };
        for (int group = 17; group <= 23; group++) {
            for (int land = 16; land < group; land++) {
                int g = group;
                int l = land;
                Edge.refused(chain, x -> x.member(g, l));
            }
        }
        Check.due(true, chain.make().member(16, 23));
        Check.due(true, chain.make().member(16, 18));
    }

    private static void memberLandsIn() {
        Edge.term(33, "a land is IN a group if it is a member of it, or in a group that is one");
        PortHouse x = house();
        for (int land = 0; land <= 15; land++) {
            x.member(23, land);
        }
        Check.due(16, x.count(623));
        for (int g = 22; g >= 16; g--) {
            x.member(g, g + 1);
        }
        for (int g = 16; g <= 23; g++) {
            Check.due(16, x.count(600 + g));
        }
        Edge.of(87, "600 + g: how many lands are in group g (616 .. 623)");
        Check.due(-1, x.count(615));
        Check.due(-1, x.count(624));
        Check.due(-1, x.count(631));
    }

    // ---- promise 34

    private static int row(PortHouse x, int[] a) {
        return x.row(a[0], a[1], a[2], a[3], a[4], a[5], a[6]);
    }

    private static int[] with(int i, int value) {
        int[] a = {12, ALL, 30, 40, 4, 3, 5};
        a[i] = value;
        return a;
    }

    private static void good(int i, int... values) {
        for (int value : values) {
            Check.due(3, row(measures(), with(i, value)));
        }
    }

    private static void bad(int i, int... values) {
        for (int value : values) {
            int[] a = with(i, value);
            Edge.thrown(Check.ARGUMENT, MEASURES, x -> row(x, a));
        }
    }

    private static void rowCode() {
        Edge.of(34, "IllegalArgumentException if a code .. can't be: 2, 4 or 6 digits, the first one not 0");
        good(0, 10, 99, 1000, 9999, 100000, 999999);
        bad(0, FAR_BELOW, -12, -1, 0, 1, 9, 100, 123, 999, 10000, 12345, 99999, 1000000, 1234567, FAR_ABOVE);
    }

    private static void rowLand() {
        Edge.of(34, "IllegalArgumentException if a .. land .. can't be: a land, group or ALL");
        good(1, 0, 15, 16, 23, 31);
        bad(1, FAR_BELOW, -1, 24, 30, 32, FAR_ABOVE);
    }

    private static void rowDays() {
        Edge.of(34, "IllegalArgumentException if a .. day .. can't be: the first");
        Check.due(3, measures().row(12, ALL, 0, 9, 4, 3, 5));
        Check.due(3, measures().row(12, ALL, 10000, 10000, 4, 3, 5));
        Check.due(3, measures().row(12, ALL, 10000, OPEN, 4, 3, 5));
        bad(2, FAR_BELOW, -1);
        for (int from : new int[] {10001, 19999, OPEN, 20001, FAR_ABOVE}) {
            Edge.thrown(Check.ARGUMENT, MEASURES, x -> x.row(12, ALL, from, OPEN, 4, 3, 5));
        }
        Edge.of(34, "IllegalArgumentException if a .. day .. can't be: the last");
        good(3, 30, 10000, OPEN);
        bad(3, FAR_BELOW, -1, 10001, 19999, 20001, FAR_ABOVE);
        Edge.of(34, "IllegalArgumentException if a .. day .. can't be: the one on which it becomes KNOWN");
        good(6, 0, 10000);
        bad(6, FAR_BELOW, -1, 10001, OPEN, FAR_ABOVE);
    }

    private static void rowEndsAhead() {
        Edge.of(34, "or it ends ahead of its first day");
        good(3, 30, 31);
        bad(3, 29, 0);
        Edge.thrown(Check.ARGUMENT, MEASURES, x -> x.row(12, ALL, 1, 0, 4, 3, 5));
        Check.due(3, measures().row(12, ALL, 0, 0, 4, 3, 5));
    }

    private static void rowKindAndRank() {
        Edge.of(34, "IllegalArgumentException if a .. kind .. can't be");
        good(4, 0, 7);
        bad(4, FAR_BELOW, -1, 8, FAR_ABOVE);
        Edge.of(34, "IllegalArgumentException if a .. rank can't be");
        good(5, 0, 9);
        bad(5, FAR_BELOW, -1, 10, FAR_ABOVE);
    }

    private static PortHouse rows(int n) {
        PortHouse x = house();
        for (int i = 0; i < n; i++) {
            Check.due(i + 1, x.row(12, ALL, i, i, 0, 0, 0));
        }
        return x;
    }

    private static void rowThreeHundred() {
        Edge.of(34, "IllegalStateException if there are 300");
        Check.due(300, rows(299).row(12, ALL, 299, 299, 0, 0, 0));
        Edge.House full = () -> rows(300);
        Edge.thrown(Check.STATE, full, x -> x.row(12, ALL, 300, 300, 0, 0, 0));
        Check.due(1, full.make().apply(123456, 0, 299, 0));
        Edge.of(34, "Of several exceptions the one told first is thrown");
        Edge.thrown(Check.ARGUMENT, full, x -> x.row(12, ALL, 300, 300, 8, 0, 0));
        Edge.of(34, "below 0 if it clashes: such a one is no row of the 300");
        PortHouse nearly = rows(299);
        Check.due(-2, nearly.row(12, ALL, 0, 0, 0, 0, 0));
        Check.due(299, nearly.count(15));
        Check.due(300, nearly.row(12, ALL, 299, 299, 0, 0, 0));
    }

    private static void clashDays() {
        Edge.of(34, "below 0 if it clashes: there is a day within both");
        int[][] clash = {{0, 10}, {10, 10}, {11, 19}, {20, 20}, {20, OPEN}, {0, OPEN}, {10, 20}};
        for (int[] a : clash) {
            Edge.answered(-2, MEASURES, x -> x.row(12, ALL, a[0], a[1], 4, 3, 5));
        }
        int[][] clear = {{0, 9}, {9, 9}, {21, 21}, {21, OPEN}};
        for (int[] a : clear) {
            Check.due(3, measures().row(12, ALL, a[0], a[1], 4, 3, 5));
        }
        Edge.of(34, "below 0 if it clashes: with one that is OPEN");
        Check.due(3, measures().row(123456, 16, 0, 9, 4, 3, 5));
        Edge.answered(-3, MEASURES, x -> x.row(123456, 16, 10000, OPEN, 4, 3, 5));
        Edge.answered(-3, MEASURES, x -> x.row(123456, 16, 10000, 10000, 4, 3, 5));
    }

    private static void clashSame() {
        Edge.term(34, "TWO ROWS CLASH if code, land (or group), kind and rank are the same");
        Edge.answered(-2, MEASURES, x -> x.row(12, ALL, 10, 20, 4, 3, 10000));
        Check.due(3, measures().row(13, ALL, 10, 20, 4, 3, 5));
        Check.due(3, measures().row(1200, ALL, 10, 20, 4, 3, 5));
        Check.due(3, measures().row(12, 0, 10, 20, 4, 3, 5));
        Check.due(3, measures().row(12, 16, 10, 20, 4, 3, 5));
        Check.due(3, measures().row(12, ALL, 10, 20, 5, 3, 5));
        Check.due(3, measures().row(12, ALL, 10, 20, 4, 4, 5));
    }

    private static void clashLeast() {
        Edge.of(34, "-1 less the least row with which it does");
        Edge.House three = () -> {
            PortHouse x = house();
            x.row(12, ALL, 30, 39, 0, 0, 0);
            x.row(12, ALL, 20, 29, 0, 0, 0);
            x.row(12, ALL, 10, 19, 0, 0, 0);
            return x;
        };
        Edge.answered(-2, three, x -> x.row(12, ALL, 0, OPEN, 0, 0, 0));
        Edge.answered(-3, three, x -> x.row(12, ALL, 0, 29, 0, 0, 0));
        Edge.answered(-4, three, x -> x.row(12, ALL, 0, 19, 0, 0, 0));
        Check.due(4, three.make().row(12, ALL, 0, 9, 0, 0, 0));
    }

    private static void clashByAllTold() {
        Edge.term(34, "as they are known by all that was told");
        PortHouse x = measures();
        Check.due(2, x.end(1, 15, 10000));
        Check.due(-2, x.row(12, ALL, 15, 30, 4, 3, 0));
        Check.due(3, x.row(12, ALL, 16, 30, 4, 3, 0));
        Edge.term(37, "(that may be ahead of the row's own, and the row may clash by it with others)");
        Check.due(3, x.end(1, OPEN, 10000));
        Check.due(2, x.apply(123456, 0, 16, 10000));
        Check.due(-2, x.row(12, ALL, 40, 50, 4, 3, 0));
    }

    // ---- promises 35, 36

    private static void excludeEdges() {
        Edge.of(35, "false if there is no such row");
        for (int none : new int[] {FAR_BELOW, -1, 0, 3, FAR_ABOVE}) {
            Edge.refused(MEASURES, x -> x.exclude(none, 0));
        }
        Edge.of(35, "A land (0 .. 15) .. false if there is no such .. land");
        for (int none : new int[] {FAR_BELOW, -1, 16, 23, 31, 32, FAR_ABOVE}) {
            Edge.refused(MEASURES, x -> x.exclude(1, none));
        }
        for (int land : new int[] {0, 15}) {
            PortHouse x = measures();
            Check.due(true, x.exclude(1, land));
            Check.due("", applying(x, 123456, land, 10, 5));
            Check.due(true, x.exclude(2, land));
        }
    }

    private static void excludeFour() {
        Edge.of(35, "it is so");
        Edge.House three = () -> {
            PortHouse x = measures();
            Check.due(true, x.exclude(1, 15));
            Check.due(true, x.exclude(1, 0));
            Check.due(true, x.exclude(1, 7));
            return x;
        };
        for (int land : new int[] {15, 0, 7}) {
            Edge.refused(three, x -> x.exclude(1, land));
        }
        Edge.of(35, "or 4 are");
        Check.due(true, three.make().exclude(1, 3));
        Edge.House four = () -> {
            PortHouse x = three.make();
            x.exclude(1, 3);
            return x;
        };
        Edge.refused(four, x -> x.exclude(1, 4));
        Edge.refused(four, x -> x.exclude(1, 3));
        Check.due("1", applying(four.make(), 129999, 4, 10, 5));
        Check.due("", applying(four.make(), 129999, 3, 10, 5));
        Check.due(true, four.make().exclude(2, 4));
    }

    private static void conditionEdges() {
        Edge.of(36, "false if there is no such row or paper");
        for (int none : new int[] {FAR_BELOW, -1, 0, 3, FAR_ABOVE}) {
            Edge.refused(MEASURES, x -> x.condition(none, 0));
        }
        for (int none : new int[] {FAR_BELOW, -1, 16, 31, 32, FAR_ABOVE}) {
            Edge.refused(MEASURES, x -> x.condition(1, none));
        }
        for (int paper : new int[] {0, 15}) {
            PortHouse x = measures();
            Check.due(true, x.condition(1, paper));
            Check.due("2", applying(x, 123456, 3, 10, 5));
            x.papers(1 << paper);
            Check.due("1 2", applying(x, 123456, 3, 10, 5));
        }
    }

    private static void conditionFour() {
        Edge.of(36, "it is so");
        Edge.House three = () -> {
            PortHouse x = measures();
            Check.due(true, x.condition(1, 15));
            Check.due(true, x.condition(1, 0));
            Check.due(true, x.condition(1, 7));
            return x;
        };
        for (int paper : new int[] {15, 0, 7}) {
            Edge.refused(three, x -> x.condition(1, paper));
        }
        Edge.of(36, "or 4 are");
        Check.due(true, three.make().condition(1, 3));
        Edge.House four = () -> {
            PortHouse x = three.make();
            x.condition(1, 3);
            return x;
        };
        Edge.refused(four, x -> x.condition(1, 4));
        PortHouse x = four.make();
        x.papers(1 << 4);
        Check.due("2", applying(x, 123456, 3, 10, 5));
        x.papers(1 << 3);
        Check.due("1 2", applying(x, 123456, 3, 10, 5));
        Check.due(true, x.condition(2, 4));
    }

    // ---- promise 37

    private static void endNoSuchRow() {
        Edge.of(37, "IndexOutOfBoundsException if there is no such row");
        for (int none : new int[] {FAR_BELOW, -1, 0, 3, FAR_ABOVE}) {
            Edge.thrown(Check.INDEX, MEASURES, x -> x.end(none, 30, 5));
        }
    }

    private static void endDays() {
        Edge.of(37, "IllegalArgumentException if there are no such days (OPEN may be told as the last one)");
        for (int day : new int[] {FAR_BELOW, -1, 10001, 19999, 20001, FAR_ABOVE}) {
            Edge.thrown(Check.ARGUMENT, MEASURES, x -> x.end(1, day, 5));
        }
        for (int known : new int[] {FAR_BELOW, -1, 10001, OPEN, FAR_ABOVE}) {
            Edge.thrown(Check.ARGUMENT, MEASURES, x -> x.end(1, 30, known));
        }
        for (int day : new int[] {10, 10000, OPEN}) {
            Check.due(2, measures().end(1, day, 5));
        }
        for (int known : new int[] {0, 10000}) {
            Check.due(2, measures().end(1, 30, known));
        }
    }

    private static void endAheadOfFirst() {
        Edge.of(37, "0, and it is not told, if it is ahead of its first day");
        Edge.answered(0, MEASURES, x -> x.end(1, 9, 10000));
        Edge.answered(0, MEASURES, x -> x.end(1, 0, 0));
        PortHouse x = measures();
        Check.due(0, x.end(1, 9, 10000));
        Check.due(2, x.end(1, 10, 10000));
        Check.due("1", applying(x, 120000, 0, 10, 10000));
        Check.due("", applying(x, 120000, 0, 11, 10000));
    }

    private static PortHouse ends(int told) {
        PortHouse x = measures();
        for (int n = 2; n <= told; n++) {
            Check.due(n, x.end(1, 20 + n, 5 + n));
        }
        return x;
    }

    private static void endEight() {
        Edge.of(37, "how many were told of it (with the first one) .. IllegalStateException if 8 were told of it");
        Check.due(8, ends(7).end(1, 99, 100));
        Edge.House full = () -> ends(8);
        Edge.thrown(Check.STATE, full, x -> x.end(1, 99, 100));
        Edge.thrown(Check.STATE, full, x -> x.end(1, OPEN, 0));
        PortHouse x = full.make();
        Check.due("1", applying(x, 120000, 0, 28, 10000));
        Check.due("", applying(x, 120000, 0, 29, 10000));
        Check.due(2, x.end(2, 99, 100));
    }

    private static void endExceptionsInTurn() {
        Edge.of(37, "Of several exceptions the one told first is thrown");
        Edge.House full = () -> ends(8);
        Edge.thrown(Check.INDEX, full, x -> x.end(3, -1, -1));
        Edge.thrown(Check.ARGUMENT, full, x -> x.end(1, -1, 5));
        Edge.thrown(Check.ARGUMENT, full, x -> x.end(1, 30, -1));
    }

    private static void endKnownLatest() {
        Edge.term(37, "of the last days known by then, the one that became known latest (of one day the one told"
                + " last)");
        PortHouse x = measures();
        x.end(1, 40, 8);
        x.end(1, 30, 7);
        int[][] due = {{5, 20}, {6, 20}, {7, 30}, {8, 40}, {9, 40}, {10000, 40}};
        for (int[] a : due) {
            Check.due("1", applying(x, 120000, 0, a[1], a[0]));
            Check.due("", applying(x, 120000, 0, a[1] + 1, a[0]));
        }
        x.end(1, 50, 8);
        x.end(1, 45, 8);
        Check.due("1", applying(x, 120000, 0, 45, 8));
        Check.due("", applying(x, 120000, 0, 46, 8));
        Check.due("", applying(x, 120000, 0, 31, 7));
        x.end(1, 15, 5);
        Check.due("1", applying(x, 120000, 0, 15, 6));
        Check.due("", applying(x, 120000, 0, 16, 6));
    }

    private static void endKnownAhead() {
        Edge.term(37, "is known from a day on, too (that may be ahead of the row's own");
        PortHouse x = measures();
        Check.due(2, x.end(1, 40, 4));
        Check.due("", applying(x, 120000, 0, 15, 4));
        Check.due("1", applying(x, 120000, 0, 20, 5));
        Check.due("", applying(x, 120000, 0, 21, 5));
    }

    // ---- promise 38

    private static void papersBits() {
        Edge.of(38, "as bits (those above 15 don't count)");
        PortHouse x = measures();
        x.condition(1, 15);
        for (int bits : new int[] {0, 0x7FFF, 0x10000, FAR_BELOW, 0xFFFF0000, ~(1 << 15)}) {
            x.papers(bits);
            Check.due("2", applying(x, 123456, 3, 10, 5));
        }
        for (int bits : new int[] {1 << 15, 0xFFFF, -1, FAR_ABOVE}) {
            x.papers(bits);
            Check.due("1 2", applying(x, 123456, 3, 10, 5));
        }
        Edge.of(38, "The papers that are there: those told last alone");
        x.papers(1);
        Check.due("2", applying(x, 123456, 3, 10, 5));
    }

    private static void papersOneOfThem() {
        Edge.term(38, "PAPERS .. of which one must be there, if there are any");
        PortHouse x = measures();
        Check.due("1 2", applying(x, 123456, 3, 10, 5));
        x.condition(1, 2);
        x.condition(1, 9);
        Check.due("2", applying(x, 123456, 3, 10, 5));
        x.papers(1 << 2);
        Check.due("1 2", applying(x, 123456, 3, 10, 5));
        x.papers(1 << 9);
        Check.due("1 2", applying(x, 123456, 3, 10, 5));
        x.papers(1 << 3);
        Check.due("2", applying(x, 123456, 3, 10, 5));
    }

    // ---- promises 39, 40

    private static void applyArguments() {
        Edge.of(39, "IllegalArgumentException if there are none such: a code of 6 digits");
        for (int code : new int[] {FAR_BELOW, -1, 0, 12, 1234, 12345, 99999, 1000000, FAR_ABOVE}) {
            Edge.thrown(Check.ARGUMENT, MEASURES, x -> x.apply(code, 3, 10, 5));
        }
        Check.due(0, measures().apply(100000, 3, 10, 5));
        Check.due(0, measures().apply(999999, 3, 10, 5));
        Edge.of(39, "IllegalArgumentException if there are none such: a land");
        for (int land : new int[] {FAR_BELOW, -1, 16, 23, 31, FAR_ABOVE}) {
            Edge.thrown(Check.ARGUMENT, MEASURES, x -> x.apply(123456, land, 10, 5));
        }
        Check.due(1, measures().apply(123456, 0, 10, 5));
        Check.due(1, measures().apply(123456, 15, 10, 5));
        Edge.of(39, "IllegalArgumentException if there are none such: a day");
        for (int day : new int[] {FAR_BELOW, -1, 10001, OPEN, FAR_ABOVE}) {
            Edge.thrown(Check.ARGUMENT, MEASURES, x -> x.apply(123456, 3, day, 5));
            Edge.thrown(Check.ARGUMENT, MEASURES, x -> x.apply(123456, 3, 10, day));
        }
        Check.due(0, measures().apply(123456, 3, 0, 0));
        Check.due(1, measures().apply(123456, 3, 10000, 10000));
    }

    private static void applyKnown() {
        Edge.term(39, "if it was known by then");
        Check.due("", applying(measures(), 123456, 3, 10, 4));
        Check.due("1 2", applying(measures(), 123456, 3, 10, 5));
        Check.due("1 2", applying(measures(), 123456, 3, 10, 10000));
    }

    private static void applyDays() {
        Edge.term(39, "the day lies between its first and its last one (both belong to it)");
        String[] due = {"", "1 2", "1 2", "2", "2"};
        int[] days = {9, 10, 20, 21, 10000};
        for (int i = 0; i < days.length; i++) {
            Check.due(due[i], applying(measures(), 123456, 3, days[i], 5));
        }
    }

    private static void applyUnder() {
        Edge.term(39, "it is UNDER another one if that is its beginning (or the same)");
        PortHouse x = house();
        x.row(12, ALL, 0, OPEN, 4, 0, 0);
        x.row(1234, ALL, 0, OPEN, 4, 0, 0);
        x.row(123456, ALL, 0, OPEN, 4, 0, 0);
        int[] codes = {119999, 120000, 123399, 123400, 123455, 123456, 123457, 123499, 123500, 129999, 130000, 112345};
        String[] due = {"", "1", "1", "1 2", "1 2", "1 2 3", "1 2", "1 2", "1", "1", "", ""};
        for (int i = 0; i < codes.length; i++) {
            Check.due(due[i], applying(x, codes[i], 0, 0, 0));
        }
        int[][] codeLeastMost = {{10, 100000, 109999}, {99, 990000, 999999}, {1000, 100000, 100099},
            {9999, 999900, 999999}, {100000, 100000, 100000}, {999999, 999999, 999999}};
        for (int[] c : codeLeastMost) {
            PortHouse y = house();
            y.row(c[0], ALL, 0, OPEN, 4, 0, 0);
            Check.due("1", applying(y, c[1], 0, 0, 0));
            Check.due("1", applying(y, c[2], 0, 0, 0));
            if (c[1] > 100000) {
                Check.due("", applying(y, c[1] - 1, 0, 0, 0));
            }
            if (c[2] < 999999) {
                Check.due("", applying(y, c[2] + 1, 0, 0, 0));
            }
        }
        Edge.term(39, "if its code is longer: the least and the greatest codes");
        for (int[] c : new int[][] {{10, 1000, 100000}, {99, 9999, 999999}}) {
            PortHouse y = house();
            y.row(c[0], ALL, 0, OPEN, 0, 9, 0);
            y.row(c[1], ALL, 0, OPEN, 0, 5, 0);
            Check.due("2", applying(y, c[2], 0, 0, 0));
            y.row(c[2], ALL, 0, OPEN, 0, 0, 0);
            Check.due("3", applying(y, c[2], 0, 0, 0));
        }
    }

    private static void applyLands() {
        Edge.term(39, "the land is its land or in its group (as groups are now) and not excluded");
        PortHouse x = house();
        x.row(12, 3, 0, OPEN, 4, 0, 0);
        x.row(12, 16, 0, OPEN, 4, 0, 0);
        x.row(12, ALL, 0, OPEN, 4, 0, 0);
        Check.due("1 3", applying(x, 123456, 3, 0, 0));
        Check.due("3", applying(x, 123456, 2, 0, 0));
        Check.due("3", applying(x, 123456, 4, 0, 0));
        x.member(16, 4);
        Check.due("2 3", applying(x, 123456, 4, 0, 0));
        x.exclude(2, 4);
        x.exclude(3, 4);
        x.exclude(1, 3);
        Check.due("", applying(x, 123456, 4, 0, 0));
        Check.due("3", applying(x, 123456, 3, 0, 0));
        Edge.term(39, "ALL is 31: each land is in it");
        PortHouse y = house();
        y.row(12, ALL, 0, OPEN, 4, 0, 0);
        for (int land = 0; land <= 15; land++) {
            Check.due(1, y.apply(123456, land, 0, 0));
        }
    }

    private static void applyBeats() {
        Edge.term(39, "a row beats another one of the same kind if its code is longer, or the codes are as long and its"
                + " rank is greater");
        for (int kind = 0; kind <= 7; kind++) {
            PortHouse x = house();
            x.row(12, ALL, 0, OPEN, kind, 9, 0);
            x.row(1234, ALL, 0, OPEN, kind, 0, 0);
            Check.due(kind <= 3 ? "2" : "1 2", applying(x, 123456, 0, 0, 0));
            x.row(1234, 3, 0, OPEN, kind, 1, 0);
            Check.due(kind <= 3 ? "3" : "1 2 3", applying(x, 123456, 3, 0, 0));
            Check.due(kind <= 3 ? "2" : "1 2", applying(x, 123456, 0, 0, 0));
            x.row(1234, 16, 0, OPEN, kind, 1, 0);
            x.member(16, 3);
            Check.due(kind <= 3 ? "3 4" : "1 2 3 4", applying(x, 123456, 3, 0, 0));
            x.row(123456, ALL, 0, OPEN, kind, 0, 0);
            Check.due(kind <= 3 ? "5" : "1 2 3 4 5", applying(x, 123456, 3, 0, 0));
            Check.due(kind <= 3 ? "3 4" : "1 2 3 4", applying(x, 123457, 3, 0, 0));
        }
    }

    private static void applyKindsNotBeaten() {
        Edge.term(39, "a row beats another one of the same kind");
        PortHouse x = house();
        for (int kind = 0; kind <= 3; kind++) {
            x.row(kind % 2 == 0 ? 12 : 123456, ALL, 0, OPEN, kind, kind, 0);
        }
        Check.due("1 2 3 4", applying(x, 123456, 0, 0, 0));
        Edge.term(39, "all rows of these whose papers are there; of KINDS 0 .. 3 only those that none of them BEATS");
        PortHouse y = house();
        y.row(12, ALL, 0, OPEN, 0, 0, 0);
        y.row(123456, ALL, 0, OPEN, 0, 0, 0);
        y.condition(2, 4);
        Check.due("1", applying(y, 123456, 0, 0, 0));
        y.papers(1 << 4);
        Check.due("2", applying(y, 123456, 0, 0, 0));
        y.exclude(2, 7);
        Check.due("1", applying(y, 123456, 7, 0, 0));
    }

    private static void applyListed() {
        Edge.of(39, "they are listed then, by kind, of these by number");
        PortHouse x = house();
        int[] kinds = {7, 5, 6, 5, 4, 7, 0};
        for (int i = 0; i < kinds.length; i++) {
            x.row(12, i, 0, OPEN, kinds[i], 0, 0);
            x.member(16, i);
        }
        for (int kind = 7; kind >= 4; kind--) {
            x.row(12, ALL, 0, OPEN, kind, 0, 0);
        }
        Check.due("11 4 10 9 8", applying(x, 123456, 3, 0, 0));
        Check.due("7 11 10 9 8", applying(x, 123456, 6, 0, 0));
        Check.due("11 10 9 1 8", applying(x, 123456, 0, 0, 0));
    }

    private static void listedEdges() {
        Edge.of(40, "The i-th row (from 0) .. NONE for none");
        Edge.answered(1, MEASURES, x -> x.listed(0));
        Edge.answered(2, MEASURES, x -> x.listed(1));
        for (int none : new int[] {FAR_BELOW, -1, 2, 300, FAR_ABOVE}) {
            Edge.answered(-1, MEASURES, x -> x.listed(none));
        }
        Edge.answered(-1, () -> house(), x -> x.listed(0));
        Edge.of(40, "of the latest list of apply() that did not throw");
        PortHouse x = measures();
        Check.thrown(Check.ARGUMENT, () -> x.apply(123456, 16, 10, 5));
        Check.due(2, x.count(16));
        Check.due(1, x.listed(0));
        Check.due(2, x.listed(1));
        Check.due(1, x.apply(123456, 3, 21, 5));
        Check.due(1, x.count(16));
        Check.due(2, x.listed(0));
        Check.due(-1, x.listed(1));
        Check.due(0, x.apply(999999, 3, 21, 5));
        Check.due(0, x.count(16));
        Check.due(-1, x.listed(0));
        Edge.of(40, "the latest list: a row that is told later is not in it");
        PortHouse y = measures();
        y.row(12, ALL, 0, 9, 0, 0, 0);
        y.exclude(1, 3);
        Check.due(2, y.count(16));
        Check.due(1, y.listed(0));
        PortHouse full = rows(300);
        for (int i = 0; i < 2; i++) {
            Check.due(1, full.apply(123456, 0, 299 * i, 0));
            Check.due(1 + 299 * i, full.listed(0));
        }
        PortHouse most = house();
        for (int i = 0; i < 300; i++) {
            most.row(12, i % 16, 0, OPEN, 4 + i / 160, i / 16 % 10, 0);
        }
        Check.due(10 + 9, most.apply(123456, 0, 0, 0));
        Check.due(289, most.listed(18));
        Check.due(-1, most.listed(19));
    }
}
