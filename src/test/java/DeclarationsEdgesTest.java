/** Boundary cases of promises 76 to 86 and of the terms H, each by the document's words. */
public final class DeclarationsEdgesTest {
    private static final int FAR_BELOW = Integer.MIN_VALUE;
    private static final int FAR_ABOVE = Integer.MAX_VALUE;
    private static final int ALL = PortHouse.ALL;
    private static final int OPEN = PortHouse.OPEN;
    private static final long MOST = 100000000L;
    private static final long MOST_DUTY = 1000000000L;
    private static final int[] NO_DECLARATION = {FAR_BELOW, -1, 5, FAR_ABOVE};
    private static final int[] NO_DAY = {FAR_BELOW, -1, 10001, OPEN, FAR_ABOVE};
    private static final int[] NO_BOOK_DAY = {FAR_BELOW, -1, 100001, FAR_ABOVE};

    public static void main(String[] args) {
        declareArguments();
        declareTaken();
        declareFourHundred();
        amountNoneDeclared();
        amountUnits();
        amountThousandths();
        askNoneDeclared();
        askAmount();
        askNoOrder();
        askHasOne();
        askSpan();
        askExceptions();
        againNone();
        againAmount();
        againCounts();
        againOfStates();
        dutyEdges();
        dutyUnits();
        dutyMost();
        dutyHalfUp();
        dutyKinds();
        dutyParts();
        dutyPapersAndKnown();
        assessNoneDeclared();
        assessNotReckoned();
        assessNotReserved();
        assessDeskFails();
        assessNothing();
        payNoneSecured();
        payDays();
        payNotPosted();
        payNothing();
        payBooks();
        claimNoneSecured();
        claimNotPosted();
        claimEntries();
        correctNone();
        correctNotReckoned();
        correctNotPosted();
        correctBooks();
        cancelNone();
        cancelRefused();
        cancelBehind();
        cancelled();
        goodsAreFree();
        declaredEdges();
        declaredFacts();
        Check.end();
    }

    /**
     * Declarations 0 .. 4 are DECLARED, SECURED, PAID, CLAIMED, CANCELLED, of 100 each by holder 2; order 0 of 1000 for
     * days 10 .. 20; goods 5 have none.
     */
    private static PortHouse states() {
        PortHouse x = Customs.house(4, "100%");
        x.guarantee(2, 1000, 1, 1, false, 0);
        x.order(1000, 10, 20);
        for (int d = 0; d < 5; d++) {
            Check.due(d, Customs.declared(x, 2, 1, 15, 100));
            if (d > 0) {
                Check.due(100, x.assess(d, 0));
            }
        }
        Check.due(0, x.pay(2, 30));
        Check.due(100, x.claim(3, 30));
        Check.due(1, x.cancel(4));
        Check.due(5, x.goods(0, 1));
        return x;
    }

    private static final Edge.House STATES = DeclarationsEdgesTest::states;

    // ---- promise 76

    private static int declare(PortHouse x, long[] a) {
        return x.declare((int) a[0], (int) a[1], (int) a[2], (int) a[3], (int) a[4], (int) a[5], a[6]);
    }

    private static void declareArguments() {
        String[] words = {"there are no such goods", "holder .. can't be", "desk .. can't be",
            "code (of 6 digits) .. can't be", "land .. can't be", "day .. can't be", "price can't be"};
        long[][] good = {{5}, {0, 7}, {0, 3}, {100000, 999999}, {0, 15}, {0, 10000}, {0, MOST}};
        long[][] bad = {{-1, 6, FAR_BELOW, FAR_ABOVE}, {-1, 8, FAR_BELOW, FAR_ABOVE}, {-1, 4, FAR_BELOW, FAR_ABOVE},
            {0, 12, 1234, 99999, 1000000, -123456, FAR_BELOW, FAR_ABOVE}, {-1, 16, 23, 31, FAR_BELOW, FAR_ABOVE},
            {-1, 10001, OPEN, FAR_BELOW, FAR_ABOVE}, {-1, MOST + 1, 1L << 32, Long.MIN_VALUE, Long.MAX_VALUE}};
        for (int i = 0; i < 7; i++) {
            Edge.of(76, "IllegalArgumentException if " + words[i]);
            for (long value : good[i]) {
                long[] a = {5, 2, 1, 123456, 3, 15, 100};
                a[i] = value;
                PortHouse x = states();
                Check.due(5, declare(x, a));
                Customs.facts(x, 5, 0, a);
            }
            for (long value : bad[i]) {
                long[] a = {5, 2, 1, 123456, 3, 15, 100};
                a[i] = value;
                Edge.thrown(Check.ARGUMENT, STATES, x -> declare(x, a));
            }
        }
    }

    private static void declareTaken() {
        Edge.of(76, "IllegalStateException if the goods have one that is not CANCELLED");
        for (int goods = 0; goods < 4; goods++) {
            int g = goods;
            Edge.thrown(Check.STATE, STATES, x -> x.declare(g, 2, 1, 123456, 3, 15, 100));
            Edge.thrown(Check.ARGUMENT, STATES, x -> x.declare(g, 2, 1, 123456, 3, 15, -1));
        }
        PortHouse x = states();
        Check.due(5, x.declare(4, 2, 1, 123456, 3, 15, 100));
        Check.thrown(Check.STATE, () -> x.declare(4, 2, 1, 123456, 3, 15, 100));
        Check.due(1, x.cancel(5));
        Check.due(6, x.declare(4, 2, 1, 123456, 3, 15, 100));
    }

    // More calls than the document allows for: what it says of 400 holds all the same.
    private static void declareFourHundred() {
        Edge.of(76, "or there are 400");
        PortHouse x = Customs.house(4, "100%");
        int goods = x.goods(0, 1);
        for (int d = 0; d < 400; d++) {
            Check.due(d, x.declare(goods, 0, 0, 123456, 0, 0, 0));
            Check.due(1, x.cancel(d));
        }
        Check.thrown(Check.STATE, () -> x.declare(goods, 0, 0, 123456, 0, 0, 0));
        Check.thrown(Check.ARGUMENT, () -> x.declare(goods, 0, 0, 123456, 0, 0, -1));
        Check.due(400, x.count(35));
        Check.due(400, x.count(40));
    }

    // ---- promise 77

    private static void amountNoneDeclared() {
        Edge.of(77, "false if there is no such declaration that is DECLARED");
        for (int none : NO_DECLARATION) {
            Edge.refused(STATES, x -> x.amount(none, 0, 5));
        }
        for (int d = 1; d < 5; d++) {
            int n = d;
            Edge.refused(STATES, x -> x.amount(n, 0, 5));
            Edge.refused(STATES, x -> x.amount(n, 0, -1));
        }
        Check.due(true, states().amount(0, 0, 5));
    }

    private static void amountUnits() {
        Edge.of(77, "no such unit");
        for (int unit : new int[] {FAR_BELOW, -1, 8, FAR_ABOVE}) {
            Edge.refused(STATES, x -> x.amount(0, unit, 5));
        }
        for (int unit = 0; unit < 8; unit++) {
            PortHouse x = states();
            Check.due(true, x.amount(0, unit, 5));
            for (int other = 0; other < 8; other++) {
                Check.due(other == unit ? 5 : -1, x.declared(0, 15 + other));
            }
        }
    }

    private static void amountThousandths() {
        Edge.of(77, "or it can't be");
        for (long amount : new long[] {Long.MIN_VALUE, -2, MOST + 1, (1L << 32) - 1, Long.MAX_VALUE}) {
            Edge.refused(STATES, x -> x.amount(0, 3, amount));
        }
        Edge.of(77, "An AMOUNT of a unit (0 .. 7), or with NONE none any more: true");
        PortHouse x = states();
        for (long amount : new long[] {-1, 0, -1, MOST, 7, -1}) {
            Check.due(true, x.amount(0, 3, amount));
            Check.due(amount, x.declared(0, 18));
        }
    }

    // ---- promises 78, 79

    private static void askNoneDeclared() {
        Edge.of(78, "IllegalArgumentException if there is no such declaration that is DECLARED");
        for (int none : NO_DECLARATION) {
            Edge.thrown(Check.ARGUMENT, STATES, x -> x.ask(none, 0, 5));
        }
        for (int d = 1; d < 5; d++) {
            int n = d;
            Edge.thrown(Check.ARGUMENT, STATES, x -> x.ask(n, 0, 5));
        }
        Check.due(1, states().ask(0, 0, 5));
    }

    private static void askAmount() {
        Edge.of(78, "or the amount is not 1 .. 1000000");
        for (long amount : new long[] {Long.MIN_VALUE, -1, 0, 1000001, (1L << 32) + 5, Long.MAX_VALUE}) {
            Edge.thrown(Check.ARGUMENT, STATES, x -> x.ask(0, 0, amount));
        }
        for (long amount : new long[] {1, 1000000}) {
            PortHouse x = states();
            Check.due(1, x.ask(0, 0, amount));
            Customs.facts(x, 0, 11, 0, amount, 0, -1);
        }
    }

    private static void askNoOrder() {
        Edge.of(78, "IndexOutOfBoundsException if there is no such order");
        for (int none : new int[] {FAR_BELOW, -1, 1, FAR_ABOVE}) {
            Edge.thrown(Check.INDEX, STATES, x -> x.ask(0, none, 5));
        }
    }

    private static void askHasOne() {
        Edge.of(78, "IllegalStateException if it has one");
        Edge.House asked = () -> {
            PortHouse x = states();
            x.order(50, 15, 15);
            x.ask(0, 0, 5);
            return x;
        };
        Edge.thrown(Check.STATE, asked, x -> x.ask(0, 0, 5));
        Edge.thrown(Check.STATE, asked, x -> x.ask(0, 1, 7));
    }

    private static void askSpan() {
        Edge.of(78, "0 if its day is not of the order's span");
        int[][] daysAndAnswer = {{16, 20, 0}, {15, 20, 1}, {10, 14, 0}, {10, 15, 1}, {15, 15, 1}, {0, 14, 0},
            {16, 400, 0}, {0, 400, 1}};
        for (int[] a : daysAndAnswer) {
            Edge.House house = () -> {
                PortHouse x = states();
                x.order(50, a[0], a[1]);
                return x;
            };
            if (a[2] == 1) {
                Check.due(1, house.make().ask(0, 1, 5));
            } else {
                Edge.answered(0, house, x -> x.ask(0, 1, 5));
            }
        }
        Edge.of(78, "0 if its day is not of the order's span: days of D go beyond 400");
        PortHouse late = Customs.house(4, "100%");
        late.order(5, 0, 400);
        Check.due(0, late.ask(Customs.declared(late, 0, 0, 401, 1), 0, 1));
        Check.due(1, late.ask(Customs.declared(late, 0, 0, 400, 1), 0, 1));
        Check.due(0, late.ask(Customs.declared(late, 0, 0, 10000, 1), 0, 1));
        Edge.of(78, "0 if its day is not of the order's span: it has no ask then, and may have another one");
        Check.due(0, late.ask(0, 0, 1));
        Customs.facts(late, 0, 11, -1, 0, 0, -1);
    }

    private static void askExceptions() {
        Edge.of(78, "Of several exceptions the one told first is thrown");
        Edge.House asked = () -> {
            PortHouse x = states();
            x.ask(0, 0, 5);
            return x;
        };
        Edge.thrown(Check.ARGUMENT, asked, x -> x.ask(0, 1, 0));
        Edge.thrown(Check.ARGUMENT, asked, x -> x.ask(1, 1, 5));
        Edge.thrown(Check.INDEX, asked, x -> x.ask(0, 1, 5));
    }

    private static PortHouse asked() {
        PortHouse x = states();
        x.ask(0, 0, 600);
        int other = Customs.declared(x, 0, 0, 16, 1);
        x.ask(other, 0, 600);
        x.run(0, 20);
        return x;
    }

    private static final Edge.House ASKED = DeclarationsEdgesTest::asked;

    private static void againNone() {
        Edge.of(79, "IllegalArgumentException if there is no such declaration");
        for (int none : new int[] {FAR_BELOW, -1, 6, FAR_ABOVE}) {
            Edge.thrown(Check.ARGUMENT, ASKED, x -> x.again(none, 5));
        }
        Edge.of(79, "that .. has an ask");
        Edge.thrown(Check.ARGUMENT, STATES, x -> x.again(0, 5));
        Edge.thrown(Check.ARGUMENT, ASKED, x -> x.again(1, 5));
        Edge.of(79, "that is not CANCELLED");
        Edge.thrown(Check.ARGUMENT, () -> {
            PortHouse x = asked();
            x.cancel(0);
            return x;
        }, x -> x.again(0, 5));
    }

    private static void againAmount() {
        Edge.of(79, "or it can't be: another one (1 .. 1000000)");
        for (long amount : new long[] {Long.MIN_VALUE, -1, 0, 1000001, (1L << 32) + 5, Long.MAX_VALUE}) {
            Edge.thrown(Check.ARGUMENT, ASKED, x -> x.again(0, amount));
        }
        for (long amount : new long[] {1, 1000000}) {
            PortHouse x = asked();
            Check.due(2, x.again(0, amount));
            Check.due(amount, x.declared(0, 12));
            Check.due(Math.min(amount, 1000), x.declared(0, 13));
        }
    }

    private static void againCounts() {
        Edge.of(79, "how many asks of that order HAVE something else than before");
        PortHouse x = asked();
        Customs.facts(x, 0, 12, 600, 600, 15);
        Customs.facts(x, 5, 12, 600, 400, 16);
        Check.due(0, x.again(5, 500));
        Check.due(0, x.again(5, 400));
        Check.due(1, x.again(5, 399));
        Check.due(1, x.again(0, 601));
        Check.due(2, x.again(0, 602));
        Edge.of(79, "how many .. HAVE something else: none of an order that was not run up to its day");
        PortHouse y = states();
        y.ask(0, 0, 5);
        Check.due(0, y.again(0, 7));
        Check.due(7, y.declared(0, 12));
    }

    private static void againOfStates() {
        Edge.of(79, "no such declaration that is not CANCELLED: SECURED, PAID and CLAIMED ones, too");
        PortHouse x = Customs.house(4, "100%");
        x.guarantee(0, 1000, 1, 1, false, 0);
        x.order(1000, 0, 20);
        x.run(0, 20);
        for (int d = 0; d < 3; d++) {
            Customs.declared(x, 0, 0, 5, 10);
            x.ask(d, 0, 100);
            x.assess(d, 0);
        }
        x.pay(1, 0);
        x.claim(2, 0);
        for (int d = 0; d < 3; d++) {
            Check.due(d + 1, x.declared(d, 7));
            Check.due(1, x.again(d, 50));
        }
    }

    // ---- promise 80

    private static void dutyEdges() {
        Edge.of(80, "IllegalArgumentException if there is no such declaration");
        for (int none : NO_DECLARATION) {
            Edge.thrown(Check.ARGUMENT, STATES, x -> x.duty(none, 0));
        }
        Edge.of(80, "or day");
        for (int none : NO_DAY) {
            Edge.thrown(Check.ARGUMENT, STATES, x -> x.duty(0, none));
        }
        for (int d = 0; d < 5; d++) {
            int n = d;
            Edge.answered(100, STATES, x -> x.duty(n, 0));
            Edge.answered(100, STATES, x -> x.duty(n, 10000));
        }
        Edge.of(80, "each row that APPLIES .. and has a RATE: without such a one 0");
        PortHouse x = new PortHouse(1, 1, 1, 1, 1);
        x.box(0, 0, 0, 0, 40, 5, 1);
        int d = Customs.declared(x, 0, 0, 0, MOST);
        Check.due(0, x.duty(d, 0));
        x.row(12, ALL, 0, OPEN, 4, 0, 0);
        Check.due(0, x.duty(d, 0));
    }

    private static void dutyUnits() {
        Edge.term(80, "It can't be RECKONED if a unit of a RATE that counts has no amount");
        for (String rate : new String[] {"1/C", "free + 1/C", "min(free, 1/C)", "5% - 1/C"}) {
            Edge.House house = () -> {
                PortHouse x = Customs.house(4, rate);
                int d = Customs.declared(x, 0, 0, 0, 100);
                x.amount(d, 1, 5);
                x.amount(d, 3, 5);
                return x;
            };
            Edge.thrown(Check.UNSUPPORTED, house, x -> x.duty(0, 0));
            PortHouse x = house.make();
            x.amount(0, 2, 0);
            Check.due(rate.startsWith("5") ? 5 : 0, x.duty(0, 0));
            x.amount(0, 2, -1);
            Check.thrown(Check.UNSUPPORTED, () -> x.duty(0, 0));
        }
        Edge.term(80, "a unit of a RATE that counts: not of one that does not");
        PortHouse x = Customs.house(1, "1/C");
        int d = Customs.declared(x, 0, 0, 5, 100);
        Check.due(0, x.duty(d, 0));
        x.order(10, 5, 5);
        x.ask(d, 0, 10);
        Check.due(0, x.duty(d, 0));
        x.run(0, 5);
        Check.thrown(Check.UNSUPPORTED, () -> x.duty(d, 0));
    }

    private static void dutyMost() {
        Edge.term(80, "or if it were above 1000000000");
        PortHouse x = Customs.house(4, "1000%");
        int d = Customs.declared(x, 0, 0, 0, MOST);
        Check.due(MOST_DUTY, x.duty(d, 0));
        Customs.measure(x, 5, "0.004/A");
        x.amount(d, 0, 124999);
        Check.due(MOST_DUTY, x.duty(d, 0));
        x.amount(d, 0, 125000);
        Check.thrown(Check.UNSUPPORTED, () -> x.duty(d, 0));
        Edge.thrown(Check.UNSUPPORTED, () -> {
            PortHouse y = Customs.house(4, "1000.001%");
            Customs.declared(y, 0, 0, 0, MOST);
            return y;
        }, y -> y.duty(0, 0));
    }

    private static void dutyHalfUp() {
        Edge.term(80, "counts in whole cents, its RATE'S VALUE to the nearest (half up)");
        long[][] amountAndCents = {{0, 0}, {499999, 0}, {500000, 1}, {500001, 1}, {1499999, 1}, {1500000, 2},
            {1000000, 1}};
        for (long[] a : amountAndCents) {
            PortHouse x = Customs.house(4, "0.001/A");
            int d = Customs.declared(x, 0, 0, 0, 0);
            x.amount(d, 0, a[0]);
            Check.due(a[1], x.duty(d, 0));
        }
        Edge.term(80, "each row .. counts in whole cents: two halves are two cents");
        PortHouse x = Customs.house(4, "0.001/A");
        Customs.measure(x, 4, "0.001/A");
        int d = Customs.declared(x, 0, 0, 0, 0);
        x.amount(d, 0, 500000);
        Check.due(2, x.duty(d, 0));
        x.amount(d, 0, 499999);
        Check.due(0, x.duty(d, 0));
    }

    /** Kinds 0 to 7 with shares of 1, 2, 4, .. 128 in 100 of a price of 10000, with an ask of so much, of 100. */
    private static PortHouse kinds(long asked) {
        PortHouse x = Customs.house(0, "1%");
        for (int kind = 1; kind < 8; kind++) {
            Customs.measure(x, kind, (1 << kind) + "%");
        }
        x.order(100, 5, 10);
        int d = Customs.declared(x, 0, 0, 5, 10000);
        if (asked > 0) {
            x.ask(d, 0, asked);
        }
        return x;
    }

    private static void dutyKinds() {
        long others = 100 * (4 + 8 + 16 + 32 + 64 + 128);
        Edge.term(80, "of KIND 0 .. on all, if it has no ask; of other KINDS on all");
        Check.due(100 + others, kinds(0).duty(0, 0));
        Edge.term(80, "of KIND 0 on the REST, if its ask HAS less than its AMOUNT: all, as long as it was not treated");
        PortHouse x = kinds(100);
        Check.due(100 + others, x.duty(0, 0));
        Edge.term(80, "of KIND 1 on the QUOTA PART, if its ask HAS something");
        x.run(0, 5);
        Check.due(200 + others, x.duty(0, 0));
        x.again(0, 101);
        Check.due(100, x.declared(0, 13));
        Check.due(198 + 1 + others, x.duty(0, 0));
        x.again(0, 200);
        Check.due(100 + 50 + others, x.duty(0, 0));
        Edge.term(80, "an AMOUNT of 0 has neither");
        x.cancel(0);
        Check.due(others, x.duty(0, 0));
    }

    private static void dutyParts() {
        Edge.term(80, "QUOTA PART: the price and each amount times what its ask HAS, by its AMOUNT, rounded down; the"
                + " REST is what is wanting to each");
        PortHouse x = Customs.house(0, "1/A + 1000%");
        Customs.measure(x, 1, "10000/A + 100%");
        x.order(1, 5, 10);
        int d = Customs.declared(x, 0, 0, 5, 2);
        x.amount(d, 0, 2000);
        x.ask(d, 0, 3);
        x.run(0, 5);
        Check.due(1, x.declared(d, 13));
        // The part: a price of 0 (2 / 3) and 666 thousandths; the rest: 2 and 1334.
        Check.due(6660 + (1 + 20), x.duty(d, 0));
        Edge.term(80, "(a unit without an amount has none in either)");
        x.amount(d, 0, -1);
        Check.thrown(Check.UNSUPPORTED, () -> x.duty(d, 0));
        x.amount(d, 0, 0);
        Check.due(20, x.duty(d, 0));
    }

    private static void dutyPapersAndKnown() {
        Edge.term(80, "DUTY of a declaration, as known on a day: each row that APPLIES (with the papers that are there"
                + " now)");
        PortHouse x = Customs.house(4, "100%");
        x.row(12, ALL, 15, 15, 5, 0, 7);
        Tape.rate(x, 2, "1%");
        x.condition(2, 0);
        int[] days = {14, 15, 16};
        for (int day : days) {
            int d = Customs.declared(x, 0, 0, day, 100);
            x.papers(1);
            Check.due(100, x.duty(d, 6));
            Check.due(day == 15 ? 101 : 100, x.duty(d, 7));
            x.papers(2);
            Check.due(100, x.duty(d, 7));
        }
        Edge.of(40, "of the latest list of apply(): a DUTY that is RECKONED makes none");
        Check.due(0, x.count(16));
    }

    // ---- promise 81

    private static void assessNoneDeclared() {
        Edge.of(81, "IllegalArgumentException if there is no such declaration that is DECLARED");
        for (int none : NO_DECLARATION) {
            Edge.thrown(Check.ARGUMENT, STATES, x -> x.assess(none, 0));
        }
        for (int d = 1; d < 5; d++) {
            int n = d;
            Edge.thrown(Check.ARGUMENT, STATES, x -> x.assess(n, 0));
        }
        Edge.of(81, "or day (of D)");
        for (int none : NO_DAY) {
            Edge.thrown(Check.ARGUMENT, STATES, x -> x.assess(0, none));
        }
        Check.due(100, states().assess(0, 0));
        Check.due(100, states().assess(0, 10000));
    }

    private static void assessNotReckoned() {
        Edge.of(81, "UnsupportedOperationException if it can't be RECKONED");
        Edge.House house = () -> {
            PortHouse x = Customs.house(4, "1/C");
            x.guarantee(0, MOST_DUTY, 1, 1, false, 0);
            Customs.declared(x, 0, 0, 0, 100);
            return x;
        };
        Edge.thrown(Check.UNSUPPORTED, house, x -> x.assess(0, 0));
        PortHouse x = house.make();
        x.amount(0, 2, 2000);
        Check.due(2, x.assess(0, 0));
        Edge.thrown(Check.UNSUPPORTED, () -> {
            PortHouse y = Customs.house(4, "1000.001%");
            y.guarantee(0, 1, 0, 1, false, 0);
            Customs.declared(y, 0, 0, 0, MOST);
            return y;
        }, y -> y.assess(0, 0));
    }

    private static void assessNotReserved() {
        Edge.of(81, "if it can't be reserved, -2 less what all of the holder's guarantees may cover together");
        for (long cover : new long[] {1, 98, 99}) {
            Edge.House house = () -> {
                PortHouse x = Customs.house(4, "100%");
                x.guarantee(1, 5000, 1, 1, false, 0);
                x.guarantee(2, cover, 1, 1, false, 0);
                Customs.declared(x, 2, 0, 0, 100);
                return x;
            };
            Edge.answered(-2 - cover, house, x -> x.assess(0, 0));
            PortHouse x = house.make();
            Check.due(-2 - cover, x.assess(0, 0));
            Check.due(0, x.declared(0, 7));
            x.guarantee(2, 100 - cover, 1, 1, false, 0);
            Check.due(100, x.assess(0, 0));
            Check.due(1, x.declared(0, 7));
        }
        Edge.answered(-2, () -> {
            PortHouse x = Customs.house(4, "100%");
            Customs.declared(x, 2, 0, 0, 1);
            return x;
        }, x -> x.assess(0, 0));
    }

    private static void assessDeskFails() {
        Edge.of(81, "else NONE if the desk FAILS (it is DECLARED still by both)");
        Edge.House fails = () -> {
            PortHouse x = states();
            x.fails(1, true);
            return x;
        };
        PortHouse x = fails.make();
        Check.due(-1, x.assess(0, 0));
        Customs.facts(x, 0, 7, 0, 0, 0);
        Check.due(4, x.count(21));
        Check.due(1, x.count(25));
        Check.due(100, x.assess(0, 0));
        Customs.facts(x, 0, 7, 1, 100, 5);
        Edge.of(81, "if it can't be reserved .. ; else NONE if the desk FAILS");
        PortHouse y = Customs.house(4, "100%");
        y.guarantee(0, 99, 1, 1, false, 0);
        y.fails(0, true);
        int d = Customs.declared(y, 0, 0, 0, 100);
        Check.due(-101, y.assess(d, 0));
        Check.due(0, y.count(24));
    }

    private static void assessNothing() {
        Edge.term(81, "its DUTY is RECKONED and, if it is not 0, reserved");
        PortHouse x = Customs.house(4, "100%");
        x.fails(0, true);
        int d = Customs.declared(x, 0, 0, 0, 0);
        Check.due(0, x.assess(d, 0));
        Customs.facts(x, d, 7, 1, 0, 0, -1);
        Check.due(0, x.count(21));
        x.guarantee(0, 1, 1, 1, false, 0);
        Check.due(true, x.fails(0, false));
        int one = Customs.declared(x, 0, 0, 0, 1);
        Check.due(1, x.assess(one, 0));
        Customs.facts(x, one, 7, 1, 1, 1, -1);
    }

    // ---- promise 82

    private static void payNoneSecured() {
        Edge.of(82, "IllegalArgumentException if there is no such declaration that is SECURED");
        for (int none : NO_DECLARATION) {
            Edge.thrown(Check.ARGUMENT, STATES, x -> x.pay(none, 30));
        }
        for (int d : new int[] {0, 2, 3, 4}) {
            Edge.thrown(Check.ARGUMENT, STATES, x -> x.pay(d, 30));
        }
        Check.due(2, states().pay(1, 30));
    }

    private static void payDays() {
        Edge.of(82, "or day (of the ledger)");
        for (int none : NO_BOOK_DAY) {
            Edge.thrown(Check.ARGUMENT, STATES, x -> x.pay(1, none));
        }
        Check.due(2, states().pay(1, 100000));
        PortHouse x = Customs.house(4, "100%");
        x.guarantee(0, 5, 1, 1, false, 0);
        Customs.secured(x, 0, 0, 5);
        Check.due(0, x.pay(0, 0));
    }

    private static void payNotPosted() {
        Edge.of(82, "IllegalStateException if .. it can't be posted (no batch is made then)");
        Edge.thrown(Check.STATE, STATES, x -> x.pay(1, 29));
        Check.due(2, states().pay(1, 30));
        Edge.House closed = () -> {
            PortHouse x = states();
            x.close(40);
            return x;
        };
        Edge.thrown(Check.STATE, closed, x -> x.pay(1, 40));
        Check.due(2, closed.make().pay(1, 41));
        Edge.of(82, "Of several exceptions the one told first is thrown");
        Edge.thrown(Check.ARGUMENT, closed, x -> x.pay(0, 40));
        eightHundredBatches();
    }

    // More calls than the document allows for: what it says of 800 holds all the same.
    private static void eightHundredBatches() {
        Edge.of(82, "IllegalStateException if there are 800 batches");
        PortHouse x = states();
        for (int batch = 2; batch < 800; batch++) {
            x.batch(0, 0);
        }
        Check.thrown(Check.STATE, () -> x.pay(1, 30));
        Check.thrown(Check.STATE, () -> x.claim(1, 30));
        Customs.facts(x, 1, 7, 1, 100, 1, -1);
        Check.due(0, x.reservation(1, 2));
    }

    private static void payNothing() {
        Edge.of(82, "NONE if DUTY is 0");
        PortHouse x = states();
        x.close(100000);
        int d = Customs.declared(x, 2, 1, 15, 0);
        x.assess(d, 0);
        int batches = x.count(28);
        Check.due(-1, x.pay(d, 0));
        Customs.facts(x, d, 7, 2, 0, 0, -1);
        Check.due(batches, x.count(28));
        Check.thrown(Check.ARGUMENT, () -> x.pay(d, 0));
    }

    private static void payBooks() {
        Edge.term(82, "a batch of its day, known on a day that is told, with the entries: the holder's account less"
                + " DUTY, DUTIES DUTY; posted; its reservation ends PAID");
        PortHouse x = states();
        int batch = x.pay(1, 33);
        long[][] due = {{batch, 2, -100, 15, 33}, {batch, 8, 100, 15, 33}};
        for (int i = 0; i < 2; i++) {
            for (int what = 0; what < 5; what++) {
                Check.due(due[i][what], x.read(4 + i, what));
            }
        }
        Customs.facts(x, 1, 7, 2, 100, 1, batch);
        Check.due(2, x.reservation(1, 2));
        Check.due(33, x.count(31));
    }

    // ---- promise 83

    private static void claimNoneSecured() {
        Edge.of(83, "IllegalArgumentException if there is no such declaration that is SECURED");
        for (int none : NO_DECLARATION) {
            Edge.thrown(Check.ARGUMENT, STATES, x -> x.claim(none, 30));
        }
        for (int d : new int[] {0, 2, 3, 4}) {
            Edge.thrown(Check.ARGUMENT, STATES, x -> x.claim(d, 30));
        }
        Edge.of(83, "and has a DUTY above 0");
        Edge.House nothing = () -> {
            PortHouse x = states();
            x.assess(Customs.declared(x, 2, 1, 15, 0), 0);
            return x;
        };
        Edge.thrown(Check.ARGUMENT, nothing, x -> x.claim(5, 30));
        PortHouse one = states();
        one.assess(Customs.declared(one, 2, 1, 15, 1), 0);
        Check.due(1, one.claim(5, 30));
        Edge.of(83, "or day (of the ledger)");
        for (int none : NO_BOOK_DAY) {
            Edge.thrown(Check.ARGUMENT, STATES, x -> x.claim(1, none));
        }
        Check.due(100, states().claim(1, 100000));
    }

    private static void claimNotPosted() {
        Edge.of(83, "IllegalStateException as pay()");
        Edge.thrown(Check.STATE, STATES, x -> x.claim(1, 29));
        Check.due(100, states().claim(1, 30));
        Edge.House closed = () -> {
            PortHouse x = states();
            x.close(40);
            return x;
        };
        Edge.thrown(Check.STATE, closed, x -> x.claim(1, 40));
        Check.due(100, closed.make().claim(1, 41));
    }

    private static void claimEntries() {
        Edge.term(83, "SECURITIES less what AMOUNTS got less, the holder's account less the rest of DUTY, DUTIES DUTY"
                + " (none of 0)");
        long[][] dutyAndTaken = {{50, 50}, {100, 100}, {101, 100}, {200, 100}};
        for (long[] a : dutyAndTaken) {
            PortHouse x = Customs.house(4, "100%");
            x.guarantee(3, 100, 1, 2, false, 0);
            int d = Customs.secured(x, 3, 9, a[0]);
            Check.due(a[1], x.claim(d, 12));
            int last = a[0] > a[1] ? 2 : 1;
            Check.due(last + 1, x.count(29));
            entry(x, 0, 9, -a[1]);
            if (last == 2) {
                entry(x, 1, 3, a[1] - a[0]);
            }
            entry(x, last, 8, a[0]);
            Customs.facts(x, d, 7, 3, a[0], 1, 0);
        }
        PortHouse x = Customs.house(4, "100%");
        x.guarantee(3, 10, 0, 1, false, 0);
        Customs.secured(x, 3, 9, 10);
        Customs.secured(x, 3, 9, 7);
        Check.due(10, x.claim(0, 12));
        Check.due(0, x.claim(1, 12));
        Check.due(4, x.count(29));
        entry(x, 2, 3, -7);
        entry(x, 3, 8, 7);
    }

    private static void entry(PortHouse x, int i, int account, long cents) {
        Check.due(account, x.read(i, 1));
        Check.due(cents, x.read(i, 2));
        Check.due(9, x.read(i, 3));
        Check.due(12, x.read(i, 4));
    }

    // ---- promise 84

    private static void correctNone() {
        Edge.of(84, "IllegalArgumentException if there is no such declaration that is PAID or CLAIMED");
        for (int none : NO_DECLARATION) {
            Edge.thrown(Check.ARGUMENT, STATES, x -> x.correct(none, 30));
        }
        for (int d : new int[] {0, 1, 4}) {
            Edge.thrown(Check.ARGUMENT, STATES, x -> x.correct(d, 30));
        }
        Edge.of(84, "or day (of D)");
        for (int none : NO_DAY) {
            Edge.thrown(Check.ARGUMENT, STATES, x -> x.correct(2, none));
        }
        Edge.of(84, "(0: nothing is booked)");
        Edge.answered(0, STATES, x -> x.correct(2, 0));
        Edge.answered(0, STATES, x -> x.correct(3, 10000));
        Edge.answered(0, () -> {
            PortHouse x = states();
            x.close(100000);
            return x;
        }, x -> x.correct(2, 30));
    }

    private static PortHouse dearer() {
        PortHouse x = states();
        x.row(12, ALL, 0, OPEN, 5, 0, 50);
        Tape.rate(x, 2, "5%");
        x.row(12, ALL, 0, OPEN, 6, 0, 60);
        Tape.rate(x, 3, "1/C");
        return x;
    }

    private static void correctNotReckoned() {
        Edge.of(84, "UnsupportedOperationException if it can't be RECKONED");
        Edge.thrown(Check.UNSUPPORTED, DeclarationsEdgesTest::dearer, x -> x.correct(2, 60));
        Check.due(5, dearer().correct(2, 59));
        Edge.of(84, "Of several exceptions the one told first is thrown");
        Edge.thrown(Check.UNSUPPORTED, () -> {
            PortHouse x = dearer();
            x.close(100000);
            return x;
        }, x -> x.correct(2, 60));
        Edge.thrown(Check.ARGUMENT, DeclarationsEdgesTest::dearer, x -> x.correct(1, 60));
    }

    private static void correctNotPosted() {
        Edge.of(84, "IllegalStateException as pay()");
        Edge.House closed = () -> {
            PortHouse x = dearer();
            x.close(54);
            return x;
        };
        Edge.thrown(Check.STATE, closed, x -> x.correct(2, 54));
        Check.due(5, closed.make().correct(2, 55));
        Edge.House later = () -> {
            PortHouse x = dearer();
            x.pay(1, 57);
            return x;
        };
        Edge.thrown(Check.STATE, later, x -> x.correct(2, 56));
        Check.due(5, later.make().correct(2, 57));
        Edge.answered(0, later, x -> x.correct(2, 49));
    }

    private static void correctBooks() {
        Edge.term(84, "what it differs by (below 0 if it is less) is a batch (as if PAID, known on that day) of its"
                + " own, and it has that DUTY");
        for (int d = 2; d <= 3; d++) {
            PortHouse x = dearer();
            int entries = x.count(29);
            Check.due(5, x.correct(d, 50));
            Customs.facts(x, d, 7, d, 105, d, 2);
            Check.due(entries + 2, x.count(29));
            Check.due(-5, x.read(entries, 2));
            Check.due(2, x.read(entries, 1));
            Check.due(5, x.read(entries + 1, 2));
            Check.due(8, x.read(entries + 1, 1));
            Check.due(15, x.read(entries, 3));
            Check.due(50, x.read(entries, 4));
            Check.due(0, x.correct(d, 50));
            x.end(2, 14, 55);
            Check.due(-5, x.correct(d, 55));
            Customs.facts(x, d, 7, d, 100, d, 3);
            Check.due(5, x.read(entries + 2, 2));
            Check.due(-5, x.read(entries + 3, 2));
        }
        Edge.of(84, "of a PAID .. one: also of one whose DUTY was 0");
        PortHouse x = dearer();
        x.exclude(1, 3);
        x.exclude(2, 3);
        int free = Customs.declared(x, 2, 1, 15, 100);
        Check.due(0, x.assess(free, 0));
        Check.due(-1, x.pay(free, 50));
        Check.due(0, x.correct(free, 50));
        Check.due(-1, x.declared(free, 10));
        Check.due(-100, x.correct(2, 51));
        Customs.facts(x, 2, 7, 2, 0, 2, 2);
    }

    // ---- promise 85

    private static void cancelNone() {
        Edge.of(85, "IllegalArgumentException if there is none such");
        for (int none : NO_DECLARATION) {
            Edge.thrown(Check.ARGUMENT, STATES, x -> x.cancel(none));
        }
    }

    private static void cancelRefused() {
        Edge.of(85, "0 if it is neither DECLARED nor SECURED");
        for (int d = 2; d < 5; d++) {
            int n = d;
            Edge.answered(0, STATES, x -> x.cancel(n));
        }
        Check.due(1, states().cancel(0));
        Check.due(1, states().cancel(1));
    }

    private static PortHouse atTheGate() {
        PortHouse x = new PortHouse(1, 4, 2, 4, 100);
        int box = Quay.loose(x, 0, 2, 5, 1);
        Quay.freed(x, box);
        x.part(box, 2000);
        return x;
    }

    private static void cancelBehind() {
        Edge.of(85, "or its goods' box is BEHIND the gate");
        Edge.answered(0, () -> {
            PortHouse x = atTheGate();
            Check.due(1, x.gate(0));
            return x;
        }, x -> x.cancel(0));
        Check.due(1, atTheGate().cancel(0));
        PortHouse away = atTheGate();
        away.away(0, 1 << 15, true);
        Check.due(1, away.cancel(0));
        Check.due(11, away.bars(0, 0));
    }

    private static void cancelled() {
        Edge.term(85, "its reservation, if it has one, is RELEASED; its ask has the AMOUNT 0 (and is treated as others"
                + " are); its DUTY and the reservation's number are told still");
        PortHouse x = states();
        Check.due(1, x.count(22));
        Check.due(1, x.cancel(0));
        Check.due(1, x.count(22));
        Check.due(1, x.cancel(1));
        Customs.facts(x, 1, 7, 4, 100, 1, -1);
        Check.due(1, x.reservation(1, 2));
        Check.due(0, x.count(22));
        PortHouse y = asked();
        Customs.facts(y, 5, 13, 400, 16);
        Check.due(1, y.cancel(0));
        Customs.facts(y, 0, 11, 0, 0, 0, 15);
        Customs.facts(y, 5, 13, 600, 16);
        Check.due(400, y.balance(0, 20));
        PortHouse z = states();
        z.ask(0, 0, 5);
        z.cancel(0);
        Customs.facts(z, 0, 11, 0, 0, 0, -1);
        Check.due(1, z.quota(0, 3));
        Check.due(0, z.run(0, 15));
        Customs.facts(z, 0, 11, 0, 0, 0, 15);
        Check.due(0, z.quota(0, 3));
    }

    private static void goodsAreFree() {
        Edge.term(81, "Goods are FREE from SECURED on, until they are CANCELLED");
        PortHouse x = Customs.house(4, "100%");
        x.guarantee(0, 1000, 1, 1, false, 0);
        int[] ends = {1, 2, 3};
        for (int end : ends) {
            int box = x.box(0, end - 1, 1, 0, 1, 5, 1);
            int goods = x.goods(box, 1000);
            int d = x.declare(goods, 0, 0, 123456, 3, 5, 100);
            Check.due(11, x.bars(box, 0));
            Check.due(1, x.cancel(d));
            Check.due(11, x.bars(box, 0));
            d = x.declare(goods, 0, 0, 123456, 3, 5, 100);
            x.assess(d, 0);
            Check.due(-1, x.bars(box, 0));
            if (end == 1) {
                x.cancel(d);
                Check.due(11, x.bars(box, 0));
                x.assess(x.declare(goods, 0, 0, 123456, 3, 5, 100), 0);
            } else if (end == 2) {
                x.pay(d, 5);
            } else {
                x.claim(d, 5);
            }
            Check.due(-1, x.bars(box, 0));
            Check.due(1, x.release(box));
        }
    }

    // ---- promise 86

    private static void declaredEdges() {
        Edge.of(86, "IndexOutOfBoundsException if there is none such");
        for (int none : NO_DECLARATION) {
            Edge.thrown(Check.INDEX, STATES, x -> x.declared(none, 0));
        }
        Edge.of(86, "or no such what");
        for (int what : new int[] {FAR_BELOW, -1, 23, FAR_ABOVE}) {
            Edge.thrown(Check.INDEX, STATES, x -> x.declared(0, what));
        }
        Edge.answered(-1, STATES, x -> x.declared(0, 22));
    }

    private static void declaredFacts() {
        Edge.of(86, "8: DUTY (0 as long as it was never SECURED; of a CANCELLED one that which it had), 9: its"
                + " reservation (0 if it never had one), 10: its latest batch (NONE without)");
        PortHouse x = states();
        long[][] due = {{0, 0, 0, -1}, {1, 100, 1, -1}, {2, 100, 2, 0}, {3, 100, 3, 1}, {4, 100, 4, -1}};
        for (int d = 0; d < 5; d++) {
            Customs.facts(x, d, 0, d, 2, 1, 123456, 3, 15, 100);
            Customs.facts(x, d, 7, due[d]);
            Edge.of(86, "11: the order of its ask (NONE without), 12: its AMOUNT (0 without), 13: what it HAS (0"
                    + " without), 14: the day on which it was treated (NONE without); 15 + u: its AMOUNT of unit u"
                    + " (NONE without)");
            Customs.facts(x, d, 11, -1, 0, 0, -1, -1, -1, -1, -1, -1, -1, -1, -1);
        }
        Check.due(1, x.cancel(0));
        Customs.facts(x, 0, 7, 4, 0, 0, -1);
    }
}
