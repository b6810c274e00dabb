/** Promises 33 to 40: groups of lands, rows, last days, papers, which rows apply. */
public final class MeasuresTest {
    private static final int ALL = PortHouse.ALL;
    private static final int OPEN = PortHouse.OPEN;

    public static void main(String[] args) {
        member();
        memberRings();
        groupsAsTheyAreNow();
        row();
        rowBounds();
        clash();
        threeHundredRows();
        exclude();
        condition();
        end();
        endKnown();
        endAndClash();
        papers();
        apply();
        applyDays();
        applyBeats();
        applyUnderGreatCodes();
        applyOrder();
        applyBounds();
        listed();
        Check.end();
    }

    private static PortHouse house() {
        return new PortHouse(1, 1, 1, 1, 1);
    }

    private static String applying(PortHouse x, int code, int land, int day, int known) {
        StringBuilder s = new StringBuilder();
        for (int i = 0, n = x.apply(code, land, day, known); i < n; i++) {
            s.append(i > 0 ? " " : "").append(x.listed(i));
        }
        return s.toString();
    }

    private static void member() {
        Check.topic("promise 33");
        PortHouse x = house();
        Check.due(true, x.member(16, 0));
        Check.due(true, x.member(16, 15));
        Check.due(false, x.member(16, 15));
        Check.due(2, x.count(616));
        Check.due(false, x.member(15, 0));
        Check.due(false, x.member(24, 0));
        Check.due(false, x.member(31, 0));
        Check.due(false, x.member(16, -1));
        Check.due(false, x.member(16, 24));
        Check.due(false, x.member(16, 31));
        Check.due(false, x.member(-1, 3));
        Check.due(true, x.member(23, 16));
        Check.due(2, x.count(623));
        Check.due(true, x.member(23, 0));
        Check.due(2, x.count(623));
        Check.due(true, x.member(23, 7));
        Check.due(3, x.count(623));
        Check.due(0, x.count(617));
        Check.due(-1, x.count(615));
        Check.due(-1, x.count(624));
        Check.due(-1, x.count(631));
    }

    private static void memberRings() {
        Check.topic("promise 33, no group is in itself");
        PortHouse x = house();
        Check.due(false, x.member(16, 16));
        for (int g = 16; g < 23; g++) {
            Check.due(true, x.member(g, g + 1));
        }
        for (int g = 17; g <= 23; g++) {
            Check.due(false, x.member(g, 16));
        }
        Check.due(false, x.member(23, 20));
        Check.due(true, x.member(23, 9));
        Check.due(true, x.member(19, 23));
        for (int g = 16; g <= 23; g++) {
            Check.due(1, x.count(600 + g));
        }
        Check.topic("promise 33, down the numbers as well");
        PortHouse y = house();
        for (int g = 23; g > 16; g--) {
            Check.due(true, y.member(g, g - 1));
        }
        Check.due(false, y.member(16, 23));
        Check.due(true, y.member(16, 3));
        for (int g = 16; g <= 23; g++) {
            Check.due(1, y.count(600 + g));
        }
    }

    private static void groupsAsTheyAreNow() {
        Check.topic("promises 33, 39, groups as they are now");
        PortHouse x = house();
        x.row(12, 16, 0, OPEN, 0, 0, 0);
        Check.due("", applying(x, 123456, 4, 0, 0));
        x.member(16, 18);
        x.member(18, 4);
        Check.due("1", applying(x, 123456, 4, 0, 0));
        Check.due("", applying(x, 123456, 5, 0, 0));
        x.exclude(1, 4);
        Check.due("", applying(x, 123456, 4, 0, 0));
    }

    private static void row() {
        Check.topic("promise 34");
        PortHouse x = house();
        Check.due(1, x.row(10, 0, 0, 0, 0, 0, 0));
        Check.due(2, x.row(9999, 23, 10000, OPEN, 7, 9, 10000));
        Check.due(3, x.row(999999, ALL, 10000, 10000, 7, 9, 0));
        Check.due(4, x.row(100000, 15, 0, 10000, 7, 9, 0));
        Check.due(5, x.row(1000, 16, 0, 10000, 7, 9, 0));
        Check.due(6, x.row(99, 16, 0, 10000, 7, 9, 0));
        Check.due(6, x.count(15));
    }

    private static void rowBounds() {
        Check.topic("promise 34, what can't be");
        PortHouse x = house();
        int[] codes = {-12, 0, 1, 9, 100, 999, 10000, 99999, 1000000, Integer.MAX_VALUE, Integer.MIN_VALUE};
        for (int code : codes) {
            Check.thrown(Check.ARGUMENT, () -> x.row(code, 0, 0, 0, 0, 0, 0));
        }
        int[][] wrong = {
            {12, -1, 0, 0, 0, 0, 0}, {12, 24, 0, 0, 0, 0, 0}, {12, 30, 0, 0, 0, 0, 0}, {12, 32, 0, 0, 0, 0, 0},
            {12, 0, -1, 0, 0, 0, 0}, {12, 0, 10001, OPEN, 0, 0, 0}, {12, 0, OPEN, OPEN, 0, 0, 0},
            {12, 0, 5, 4, 0, 0, 0}, {12, 0, 5, 10001, 0, 0, 0}, {12, 0, 5, 19999, 0, 0, 0}, {12, 0, 5, 20001, 0, 0, 0},
            {12, 0, 0, -1, 0, 0, 0}, {12, 0, 0, 0, -1, 0, 0}, {12, 0, 0, 0, 8, 0, 0}, {12, 0, 0, 0, 0, -1, 0},
            {12, 0, 0, 0, 0, 10, 0}, {12, 0, 0, 0, 0, 0, -1}, {12, 0, 0, 0, 0, 0, 10001}, {12, 0, 0, 0, 0, 0, OPEN},
        };
        for (int[] a : wrong) {
            Check.thrown(Check.ARGUMENT, () -> x.row(a[0], a[1], a[2], a[3], a[4], a[5], a[6]));
        }
        Check.due(0, x.count(15));
    }

    private static void clash() {
        Check.topic("promise 34, clashes");
        PortHouse x = house();
        x.row(12, 3, 10, 20, 1, 2, 5);
        Check.due(2, x.row(12, 3, 21, 30, 1, 2, 5));
        Check.due(-2, x.row(12, 3, 20, 30, 1, 2, 9));
        Check.due(-2, x.row(12, 3, 0, 10, 1, 2, 0));
        Check.due(-2, x.row(12, 3, 12, 13, 1, 2, 0));
        Check.due(-2, x.row(12, 3, 0, OPEN, 1, 2, 0));
        Check.due(-3, x.row(12, 3, 25, OPEN, 1, 2, 0));
        Check.due(2, x.count(15));
        Check.due(3, x.row(12, 3, 0, 9, 1, 2, 0));
        Check.due(4, x.row(12, 4, 10, 20, 1, 2, 5));
        Check.due(5, x.row(1212, 3, 10, 20, 1, 2, 5));
        Check.due(6, x.row(12, 3, 10, 20, 2, 2, 5));
        Check.due(7, x.row(12, 3, 10, 20, 1, 3, 5));
        Check.due(8, x.row(12, ALL, 10, 20, 1, 2, 5));
    }

    private static void threeHundredRows() {
        Check.topic("promise 34, three hundred");
        PortHouse x = house();
        for (int i = 0; i < 300; i++) {
            Check.due(i + 1, x.row(12, 0, i, i, 0, 0, 0));
        }
        Check.thrown(Check.STATE, () -> x.row(12, 0, 300, 300, 0, 0, 0));
        Check.thrown(Check.STATE, () -> x.row(12, 0, 3, 3, 0, 0, 0));
        Check.thrown(Check.ARGUMENT, () -> x.row(12, 0, 300, 299, 0, 0, 0));
        Check.due(1, x.apply(129999, 0, 299, 0));
        Check.due(300, x.listed(0));
        Check.due(1, Tape.rate(x, 300, "5%"));
        Check.due(true, x.exclude(300, 1));
        Check.due(true, x.condition(300, 1));
        Check.due(2, x.end(300, 299, 1));
    }

    private static void exclude() {
        Check.topic("promise 35");
        PortHouse x = house();
        x.row(12, ALL, 0, OPEN, 0, 0, 0);
        Check.due(true, x.exclude(1, 0));
        Check.due(false, x.exclude(1, 0));
        Check.due(true, x.exclude(1, 15));
        Check.due(true, x.exclude(1, 3));
        Check.due(true, x.exclude(1, 4));
        Check.due(false, x.exclude(1, 5));
        Check.due(false, x.exclude(0, 1));
        Check.due(false, x.exclude(2, 1));
        x.row(13, ALL, 0, OPEN, 0, 0, 0);
        Check.due(false, x.exclude(2, -1));
        Check.due(false, x.exclude(2, 16));
        Check.due(false, x.exclude(2, 31));
        Check.due("", applying(x, 123456, 15, 0, 0));
        Check.due("1", applying(x, 123456, 5, 0, 0));
        Check.due("2", applying(x, 133456, 15, 0, 0));
    }

    private static void condition() {
        Check.topic("promise 36");
        PortHouse x = house();
        x.row(12, ALL, 0, OPEN, 0, 0, 0);
        Check.due(true, x.condition(1, 0));
        Check.due(false, x.condition(1, 0));
        Check.due(true, x.condition(1, 15));
        Check.due(true, x.condition(1, 3));
        Check.due(true, x.condition(1, 4));
        Check.due(false, x.condition(1, 5));
        Check.due(false, x.condition(0, 1));
        Check.due(false, x.condition(2, 1));
        x.row(13, ALL, 0, OPEN, 0, 0, 0);
        Check.due(false, x.condition(2, -1));
        Check.due(false, x.condition(2, 16));
    }

    private static void end() {
        Check.topic("promise 37");
        PortHouse x = house();
        x.row(12, ALL, 50, 100, 0, 0, 10);
        Check.due(0, x.end(1, 49, 20));
        Check.due("1", applying(x, 123456, 0, 60, 20));
        Check.due(2, x.end(1, 50, 20));
        Check.due(3, x.end(1, OPEN, 30));
        int[][] wrong = {{-1, 0}, {10001, 0}, {19999, 0}, {20001, 0}, {60, -1}, {60, 10001}, {60, OPEN}};
        for (int[] a : wrong) {
            Check.thrown(Check.ARGUMENT, () -> x.end(1, a[0], a[1]));
        }
        Check.thrown(Check.INDEX, () -> x.end(0, 60, 0));
        Check.thrown(Check.INDEX, () -> x.end(2, 60, 0));
        Check.thrown(Check.INDEX, () -> x.end(2, -1, 0));
        for (int i = 4; i <= 8; i++) {
            Check.due(i, x.end(1, 60, 40));
        }
        Check.thrown(Check.STATE, () -> x.end(1, 60, 40));
        Check.thrown(Check.ARGUMENT, () -> x.end(1, 60, -1));
    }

    private static void endKnown() {
        Check.topic("promise 37, of the last days known by then the one that became known latest");
        PortHouse x = house();
        x.row(12, ALL, 50, 100, 0, 0, 10);
        x.end(1, 200, 30);
        x.end(1, 70, 20);
        Check.due("", applying(x, 123456, 0, 60, 9));
        Check.due("1", applying(x, 123456, 0, 100, 10));
        Check.due("", applying(x, 123456, 0, 101, 19));
        Check.due("1", applying(x, 123456, 0, 70, 20));
        Check.due("", applying(x, 123456, 0, 71, 29));
        Check.due("1", applying(x, 123456, 0, 200, 30));
        Check.due("", applying(x, 123456, 0, 201, 10000));
        x.end(1, 60, 30);
        Check.due("", applying(x, 123456, 0, 61, 30));
        Check.due("1", applying(x, 123456, 0, 60, 30));
        Check.topic("promise 37, known ahead of the row itself");
        x.row(13, ALL, 0, 100, 0, 0, 10);
        Check.due(2, x.end(2, 5, 3));
        Check.due("", applying(x, 133456, 0, 4, 5));
        Check.due("2", applying(x, 133456, 0, 100, 10));
        Check.due(3, x.end(2, 6, 10));
        Check.due("", applying(x, 133456, 0, 7, 10));
    }

    private static void endAndClash() {
        Check.topic("promises 34, 37, clashes go by all that was told");
        PortHouse x = house();
        x.row(12, 0, 0, 100, 0, 0, 10);
        x.end(1, 50, 9000);
        Check.due(2, x.row(12, 0, 51, 60, 0, 0, 0));
        x.end(1, 100, 8000);
        Check.due(3, x.row(12, 0, 61, 70, 0, 0, 0));
        Check.topic("promise 37, a row may clash by a last day that is told");
        Check.due(4, x.end(1, 65, 9000));
        Check.due(-2, x.row(12, 0, 60, 60, 0, 0, 0));
        Check.due(-4, x.row(12, 0, 66, 66, 0, 0, 0));
        Check.due("1 3", applying(x, 120000, 0, 61, 9000));
        x.end(1, OPEN, 10000);
        Check.due(-2, x.row(12, 0, 10000, OPEN, 0, 0, 0));
    }

    private static void papers() {
        Check.topic("promise 38");
        PortHouse x = house();
        x.row(12, ALL, 0, OPEN, 4, 0, 0);
        x.row(12, ALL, 0, OPEN, 5, 0, 0);
        x.condition(2, 15);
        x.condition(2, 2);
        Check.due("1", applying(x, 123456, 0, 0, 0));
        x.papers(4);
        Check.due("1 2", applying(x, 123456, 0, 0, 0));
        x.papers(1 << 15);
        Check.due("1 2", applying(x, 123456, 0, 0, 0));
        x.papers(~(1 << 15 | 4));
        Check.due("1", applying(x, 123456, 0, 0, 0));
        x.papers(1 << 16);
        Check.due("1", applying(x, 123456, 0, 0, 0));
        x.papers(-1);
        Check.due("1 2", applying(x, 123456, 0, 0, 0));
    }

    private static void apply() {
        Check.topic("promise 39, codes and lands");
        PortHouse x = house();
        x.row(12, 3, 0, OPEN, 4, 0, 0);
        x.row(1234, 3, 0, OPEN, 4, 0, 0);
        x.row(123456, 3, 0, OPEN, 4, 0, 0);
        x.row(1235, 3, 0, OPEN, 4, 0, 0);
        x.row(12, 4, 0, OPEN, 4, 0, 0);
        x.row(12, ALL, 0, OPEN, 4, 0, 0);
        Check.due("1 2 3 6", applying(x, 123456, 3, 5, 0));
        Check.due("1 2 6", applying(x, 123457, 3, 5, 0));
        Check.due("1 4 6", applying(x, 123557, 3, 5, 0));
        Check.due("5 6", applying(x, 123456, 4, 5, 0));
        Check.due("6", applying(x, 123456, 0, 5, 0));
        Check.due("", applying(x, 223456, 3, 5, 0));
        Check.due(0, x.count(16));
    }

    private static void applyDays() {
        Check.topic("promise 39, days");
        PortHouse x = house();
        x.row(12, 3, 10, 20, 4, 0, 5);
        x.row(12, 3, 21, OPEN, 4, 0, 6);
        Check.due("", applying(x, 123456, 3, 9, 6));
        Check.due("1", applying(x, 123456, 3, 10, 6));
        Check.due("1", applying(x, 123456, 3, 20, 5));
        Check.due("2", applying(x, 123456, 3, 21, 6));
        Check.due("", applying(x, 123456, 3, 21, 5));
        Check.due("", applying(x, 123456, 3, 10, 4));
        Check.due("2", applying(x, 123456, 3, 10000, 10000));
    }

    private static void applyBeats() {
        Check.topic("promise 39, of kinds 0 to 3 those that none beats");
        for (int kind = 0; kind < 8; kind++) {
            PortHouse x = house();
            x.row(12, 3, 0, OPEN, kind, 9, 0);
            x.row(1234, 3, 0, OPEN, kind, 1, 0);
            x.row(1234, ALL, 0, OPEN, kind, 1, 0);
            x.row(1234, 16, 0, OPEN, kind, 0, 0);
            x.member(16, 3);
            Check.due(kind < 4 ? "2 3" : "1 2 3 4", applying(x, 123456, 3, 0, 0));
            x.row(123456, 3, 0, OPEN, (kind + 1) % 8, 0, 0);
            Check.due(kind < 4 ? 3 : 5, x.apply(123456, 3, 0, 0));
            x.condition(2, 1);
            x.condition(3, 1);
            Check.due(kind < 4 ? "4" : "1 4", withoutRowFive(x));
            x.exclude(4, 3);
            Check.due("1", withoutRowFive(x));
        }
    }

    private static void applyUnderGreatCodes() {
        Check.topic("promise 39, the greatest and the least codes of a length");
        PortHouse x = house();
        x.row(99, 3, 0, OPEN, 0, 9, 0);
        x.row(9999, 3, 0, OPEN, 0, 5, 0);
        x.row(10, 3, 0, OPEN, 0, 9, 0);
        x.row(1000, 3, 0, OPEN, 0, 5, 0);
        x.row(100000, 3, 0, OPEN, 0, 0, 0);
        x.row(99, 3, 0, OPEN, 4, 9, 0);
        x.row(9999, 3, 0, OPEN, 5, 5, 0);
        x.row(999999, 3, 0, OPEN, 6, 5, 0);
        Check.due("2 6 7 8", applying(x, 999999, 3, 0, 0));
        Check.due("1 6", applying(x, 999899, 3, 0, 0));
        Check.due("5", applying(x, 100000, 3, 0, 0));
        Check.due("4", applying(x, 100001, 3, 0, 0));
        Check.due("3", applying(x, 100100, 3, 0, 0));
        Check.due(9, x.row(999999, 3, 0, OPEN, 0, 0, 0));
        Check.due("9 6 7 8", applying(x, 999999, 3, 0, 0));
    }

    private static String withoutRowFive(PortHouse x) {
        return (" " + applying(x, 123456, 3, 0, 0) + " ").replace(" 5 ", " ").trim();
    }

    private static void applyOrder() {
        Check.topic("promise 39, by kind, of these by number");
        PortHouse x = house();
        x.row(12, 3, 0, OPEN, 7, 0, 0);
        x.row(12, 3, 0, OPEN, 4, 0, 0);
        x.row(12, 3, 0, OPEN, 0, 0, 0);
        x.row(1234, 3, 0, OPEN, 4, 0, 0);
        x.row(12, 3, 0, OPEN, 3, 0, 0);
        x.row(12, 4, 0, OPEN, 0, 0, 0);
        Check.due("3 5 2 4 1", applying(x, 123456, 3, 0, 0));
        Check.due(5, x.count(16));
    }

    private static void applyBounds() {
        Check.topic("promise 39, what can't be");
        PortHouse x = house();
        x.row(12, 3, 0, OPEN, 7, 0, 0);
        x.apply(123456, 3, 0, 0);
        int[][] wrong = {{12, 3, 0, 0}, {1234, 3, 0, 0}, {99999, 3, 0, 0}, {1000000, 3, 0, 0}, {123456, -1, 0, 0},
            {123456, 16, 0, 0}, {123456, 31, 0, 0}, {123456, 3, -1, 0}, {123456, 3, 10001, 0}, {123456, 3, OPEN, 0},
            {123456, 3, 0, -1}, {123456, 3, 0, 10001}};
        for (int[] a : wrong) {
            Check.thrown(Check.ARGUMENT, () -> x.apply(a[0], a[1], a[2], a[3]));
        }
        Check.due(1, x.listed(0));
    }

    private static void listed() {
        Check.topic("promise 40");
        PortHouse x = house();
        x.row(12, 3, 0, OPEN, 7, 0, 0);
        x.row(13, 3, 0, OPEN, 7, 0, 0);
        x.row(1313, 3, 0, OPEN, 7, 0, 0);
        Check.due(-1, x.listed(0));
        Check.due(2, x.apply(131313, 3, 0, 0));
        Check.due(2, x.listed(0));
        Check.due(3, x.listed(1));
        Check.due(-1, x.listed(2));
        Check.due(-1, x.listed(-1));
        Check.due(-1, x.listed(Integer.MAX_VALUE));
        Check.due(1, x.apply(123456, 3, 0, 0));
        Check.due(1, x.listed(0));
        Check.due(-1, x.listed(1));
        Check.topic("promise 40, a duty that is reckoned makes no list");
        x.box(0, 0, 0, 0, 1, 0, 1);
        x.goods(0, 5);
        x.declare(0, 0, 0, 131313, 3, 0, 0L);
        Check.due(0, x.duty(0, 0));
        Check.due(1, x.listed(0));
        Check.due(1, x.count(16));
    }
}
