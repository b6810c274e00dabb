/** Boundary cases of promises 47 to 52 and of the terms F, each by the document's words. */
public final class QuotasEdgesTest {
    private static final int FAR_BELOW = Integer.MIN_VALUE;
    private static final int FAR_ABOVE = Integer.MAX_VALUE;
    private static final long MOST = 1000000000L;
    private static final int[] NO_ORDER = {-1, 2, FAR_BELOW, FAR_ABOVE};

    public static void main(String[] args) {
        orderVolume();
        orderDays();
        orderSixteen();
        runNoSuchOrder();
        runDays();
        runUpToIt();
        runCounts();
        runBehindSpan();
        treatJustEnough();
        treatShares();
        treatLeft();
        treatNothing();
        blockNoSuchOrder();
        blockDays();
        blockWasSo();
        blockedWait();
        blockedLastDay();
        changesFromTheirDayOn();
        transferNoSuchOrder();
        transferSame();
        transferWasRun();
        transferVolume();
        transferTooMuch();
        balanceNoSuchOrder();
        balanceDays();
        quotaEdges();
        quotaFacts();
        quotaCritical();
        Check.end();
    }

    /** Order 0 of 100 for days 5 .. 10 was run up to 7, with asks of 60 (day 6) and 30 (day 8); order 1 of 10 for 0. */
    private static PortHouse orders() {
        PortHouse x = Customs.house(0, "100%");
        Check.due(0, x.order(100, 5, 10));
        Check.due(1, x.order(10, 0, 0));
        Customs.asks(x, 0, 6, 0, 60);
        Customs.asks(x, 1, 8, 0, 30);
        Check.due(true, x.block(0, 9, true));
        Check.due(1, x.run(0, 7));
        return x;
    }

    private static final Edge.House ORDERS = QuotasEdgesTest::orders;

    private static PortHouse house() {
        return Customs.house(0, "100%");
    }

    // ---- promise 47

    private static void orderVolume() {
        Edge.of(47, "IllegalArgumentException if the volume .. can't be");
        for (long volume : new long[] {Long.MIN_VALUE, -1, 0, MOST + 1, 1L << 32, Long.MAX_VALUE}) {
            Edge.thrown(Check.ARGUMENT, ORDERS, x -> x.order(volume, 5, 10));
        }
        for (long volume : new long[] {1, MOST}) {
            PortHouse x = orders();
            Check.due(2, x.order(volume, 5, 10));
            Check.due(volume, x.quota(2, 0));
        }
    }

    private static void orderDays() {
        Edge.of(47, "IllegalArgumentException if .. the days can't be: a SPAN of days of 0 .. 400");
        int[][] bad = {{-1, 5}, {-1, -1}, {0, 401}, {401, 401}, {400, 401}, {FAR_BELOW, 0}, {0, FAR_ABOVE}};
        for (int[] a : bad) {
            Edge.thrown(Check.ARGUMENT, ORDERS, x -> x.order(5, a[0], a[1]));
        }
        Edge.of(47, "or the last one is ahead of the first");
        Edge.thrown(Check.ARGUMENT, ORDERS, x -> x.order(5, 6, 5));
        Edge.thrown(Check.ARGUMENT, ORDERS, x -> x.order(5, 400, 0));
        int[][] good = {{0, 0}, {0, 400}, {400, 400}, {5, 5}, {5, 6}};
        for (int[] a : good) {
            Check.due(2, orders().order(5, a[0], a[1]));
        }
    }

    private static void orderSixteen() {
        Edge.of(47, "IllegalStateException if there are 16");
        Edge.House nearly = () -> {
            PortHouse x = house();
            for (int i = 0; i < 15; i++) {
                Check.due(i, x.order(10 + i, i, 400));
            }
            return x;
        };
        Check.due(15, nearly.make().order(5, 0, 400));
        Edge.House full = () -> {
            PortHouse x = nearly.make();
            x.order(5, 0, 400);
            return x;
        };
        Edge.thrown(Check.STATE, full, x -> x.order(5, 0, 400));
        Edge.of(47, "Of several exceptions the one told first is thrown");
        Edge.thrown(Check.ARGUMENT, full, x -> x.order(0, 0, 400));
        Edge.thrown(Check.ARGUMENT, full, x -> x.order(5, 0, 401));
    }

    // ---- promise 48

    private static void runNoSuchOrder() {
        Edge.of(48, "IndexOutOfBoundsException if there is no such order");
        for (int none : NO_ORDER) {
            Edge.thrown(Check.INDEX, ORDERS, x -> x.run(none, 9));
        }
        Edge.of(48, "Of several exceptions the one told first is thrown");
        Edge.thrown(Check.INDEX, ORDERS, x -> x.run(2, -1));
    }

    private static void runDays() {
        Edge.of(48, "IllegalArgumentException if it is no day of 0 .. 400");
        for (int day : new int[] {FAR_BELOW, -1, 401, FAR_ABOVE}) {
            Edge.thrown(Check.ARGUMENT, ORDERS, x -> x.run(0, day));
            Edge.thrown(Check.ARGUMENT, ORDERS, x -> x.run(1, day));
        }
        Check.due(0, orders().run(1, 0));
        Check.due(1, orders().run(0, 400));
        Check.due(0, orders().run(1, 400));
    }

    private static void runUpToIt() {
        Edge.of(48, "or the order was run up to it");
        for (int day : new int[] {0, 4, 5, 6, 7}) {
            Edge.thrown(Check.ARGUMENT, ORDERS, x -> x.run(0, day));
        }
        Check.due(1, orders().run(0, 8));
        Edge.term(48, "the day up to which they were RUN (at first the one ahead of the span)");
        Edge.House fresh = () -> {
            PortHouse x = house();
            x.order(100, 5, 10);
            x.order(100, 0, 10);
            return x;
        };
        Check.due(4, fresh.make().quota(0, 1));
        Check.due(-1, fresh.make().quota(1, 1));
        Edge.thrown(Check.ARGUMENT, fresh, x -> x.run(0, 4));
        Edge.thrown(Check.ARGUMENT, fresh, x -> x.run(0, 3));
        Check.due(0, fresh.make().run(0, 5));
        Check.due(0, fresh.make().run(1, 0));
        Edge.thrown(Check.ARGUMENT, () -> {
            PortHouse x = fresh.make();
            x.run(1, 400);
            return x;
        }, x -> x.run(1, 400));
    }

    private static void runCounts() {
        Edge.of(48, "how many asks were treated on days that were not run before, and got something");
        PortHouse x = house();
        x.order(10, 0, 10);
        Customs.asks(x, 0, 0, 0, 4);
        Customs.asks(x, 0, 0, 0, 6);
        Customs.asks(x, 0, 1, 0, 5);
        int gone = Customs.asks(x, 0, 0, 0, 5);
        x.cancel(gone);
        Check.due(2, x.run(0, 0));
        Check.due(0, x.run(0, 1));
        Customs.facts(x, 2, 13, 0, 1);
        Customs.facts(x, gone, 12, 0, 0, 0);
        Check.due(0, x.run(0, 2));
        Edge.of(48, "and got something: one is enough");
        PortHouse one = house();
        one.order(1, 0, 10);
        one.order(1, 0, 10);
        Customs.asks(one, 0, 0, 1, 1);
        Customs.asks(one, 0, 0, 0, 3);
        Customs.asks(one, 0, 0, 0, 3);
        Check.due(1, one.run(0, 0));
        Check.due(1, one.run(1, 0));
        Customs.facts(one, 0, 11, 1, 1, 1, 0);
        Edge.of(48, "on days that were not run before: an ask of a day that was");
        PortHouse y = house();
        y.order(10, 0, 10);
        Check.due(0, y.run(0, 3));
        Customs.asks(y, 0, 2, 0, 4);
        Customs.facts(y, 0, 13, 4, 2);
        Check.due(0, y.run(0, 5));
        Edge.of(48, "on days that were not run before: treated behind a blocked one");
        PortHouse z = house();
        z.order(10, 0, 10);
        z.block(0, 3, true);
        Customs.asks(z, 0, 3, 0, 4);
        Check.due(0, z.run(0, 3));
        Check.due(1, z.run(0, 4));
    }

    private static void runBehindSpan() {
        Edge.of(48, "An order is run up to a day (also behind its span)");
        PortHouse x = orders();
        Check.due(1, x.run(0, 11));
        Check.due(11, x.quota(0, 1));
        Check.due(10, x.balance(0, 11));
        Check.due(0, x.run(0, 400));
        Check.due(400, x.quota(0, 1));
    }

    // ---- to treat

    private static PortHouse treated(long volume, long... asked) {
        PortHouse x = house();
        x.order(volume, 5, 10);
        for (long amount : asked) {
            Customs.asks(x, 0, 5, 0, amount);
        }
        x.run(0, 5);
        return x;
    }

    private static void has(PortHouse x, long balance, long... due) {
        for (int d = 0; d < due.length; d++) {
            Check.due(due[d], x.declared(d, 13));
        }
        Check.due(balance, x.balance(0, 5));
    }

    private static void treatJustEnough() {
        Edge.term(48, "if their amounts together are not more than the balance, each gets its amount");
        has(treated(11, 3, 7), 1, 3, 7);
        has(treated(10, 3, 7), 0, 3, 7);
        Edge.term(48, "Else each gets its SHARE of the balance");
        has(treated(9, 3, 7), 0, 3, 6);
        has(treated(1, 1), 0, 1);
        has(treated(MOST, 1000000, 1000000), MOST - 2000000, 1000000, 1000000);
    }

    private static void treatShares() {
        Edge.term(48, "by its amount among all (amount * balance / all, rounded down)");
        has(treated(10, 10, 10), 0, 5, 5);
        has(treated(3, 1, 2, 3), 0, 1, 1, 1);
        has(treated(999999, 1000000, 1000000), 0, 500000, 499999);
        has(treated(1000000, 1000000, 1, 1000000), 0, 500000, 1, 499999);
    }

    private static void treatLeft() {
        Edge.term(48, "what is left then goes one by one to those that have less than their amount, by desk, of these"
                + " in the order in which they were told");
        PortHouse x = house();
        x.order(7, 5, 10);
        int[] desks = {3, 1, 0, 1, 2};
        for (int desk : desks) {
            Customs.asks(x, desk, 5, 0, 2);
        }
        x.run(0, 5);
        has(x, 0, 1, 2, 2, 1, 1);
        PortHouse y = house();
        y.order(9, 5, 10);
        for (int desk : desks) {
            Customs.asks(y, desk, 5, 0, 2);
        }
        y.run(0, 5);
        has(y, 0, 1, 2, 2, 2, 2);
        Edge.term(48, "TO TREAT those of a day: what is left goes to none of a later one");
        PortHouse z = house();
        z.order(3, 5, 10);
        Customs.asks(z, 0, 6, 0, 9);
        Customs.asks(z, 3, 5, 0, 2);
        Customs.asks(z, 3, 5, 0, 2);
        Check.due(2, z.run(0, 10));
        has(z, 0, 0, 2, 1);
        Edge.term(48, "to those that have less than their amount: not to one whose AMOUNT is 0");
        PortHouse none = house();
        none.order(3, 5, 10);
        none.cancel(Customs.asks(none, 0, 5, 0, 9));
        Customs.asks(none, 3, 5, 0, 2);
        Customs.asks(none, 3, 5, 0, 2);
        Check.due(2, none.run(0, 10));
        has(none, 0, 0, 2, 1);
    }

    private static void treatNothing() {
        Edge.term(48, "What an ask HAS is what it got; 0 if it was not treated");
        PortHouse x = orders();
        Customs.facts(x, 0, 12, 60, 60, 6);
        Customs.facts(x, 1, 12, 30, 0, -1);
        Edge.term(48, "each gets its SHARE of the balance: of none, nothing");
        PortHouse y = treated(5, 5);
        Customs.asks(y, 0, 6, 0, 3);
        Check.due(0, y.run(0, 6));
        Customs.facts(y, 1, 12, 3, 0, 6);
    }

    // ---- promise 49

    private static void blockNoSuchOrder() {
        Edge.of(49, "IndexOutOfBoundsException if there is no such order");
        for (int none : NO_ORDER) {
            Edge.thrown(Check.INDEX, ORDERS, x -> x.block(none, 5, true));
            Edge.thrown(Check.INDEX, ORDERS, x -> x.block(none, -1, false));
        }
    }

    private static void blockDays() {
        Edge.of(49, "A day of an order's span .. false if it is no such day");
        for (int day : new int[] {FAR_BELOW, -1, 0, 4, 11, 400, 401, FAR_ABOVE}) {
            Edge.refused(ORDERS, x -> x.block(0, day, true));
            Edge.refused(ORDERS, x -> x.block(0, day, false));
        }
        for (int day : new int[] {5, 10}) {
            PortHouse x = orders();
            Check.due(true, x.block(0, day, true));
            Check.due(2, x.quota(0, 2));
        }
        Check.due(true, orders().block(1, 0, true));
    }

    private static void blockWasSo() {
        Edge.of(49, "or it was so");
        Edge.refused(ORDERS, x -> x.block(0, 9, true));
        Edge.refused(ORDERS, x -> x.block(0, 8, false));
        PortHouse x = orders();
        Check.due(true, x.block(0, 9, false));
        Check.due(false, x.block(0, 9, false));
        Check.due(0, x.quota(0, 2));
        Check.due(true, x.block(0, 9, true));
        Check.due(1, x.quota(0, 2));
    }

    private static void blockedWait() {
        Edge.term(49, "all asks of that day, and of days before it, that were not treated yet are treated together");
        PortHouse x = house();
        x.order(10, 5, 10);
        x.block(0, 5, true);
        x.block(0, 6, true);
        Customs.asks(x, 0, 5, 0, 10);
        Customs.asks(x, 0, 6, 0, 10);
        Customs.asks(x, 0, 7, 0, 20);
        Customs.asks(x, 0, 8, 0, 20);
        Check.due(0, x.run(0, 6));
        Check.due(10, x.balance(0, 6));
        Check.due(3, x.run(0, 8));
        Customs.facts(x, 0, 13, 3, 7);
        Customs.facts(x, 1, 13, 2, 7);
        Customs.facts(x, 2, 13, 5, 7);
        Customs.facts(x, 3, 13, 0, 8);
    }

    private static void blockedLastDay() {
        Edge.term(49, "(Those of blocked days so wait; behind the span none is treated any more.)");
        PortHouse x = house();
        x.order(10, 5, 10);
        Customs.asks(x, 0, 10, 0, 4);
        Customs.asks(x, 0, 9, 0, 3);
        x.block(0, 10, true);
        x.block(0, 9, true);
        Check.due(0, x.run(0, 400));
        Check.due(2, x.quota(0, 3));
        Check.due(10, x.balance(0, 400));
        Customs.facts(x, 0, 13, 0, -1);
        Check.due(true, x.block(0, 10, false));
        Customs.facts(x, 0, 13, 4, 10);
        Customs.facts(x, 1, 13, 3, 10);
        Check.due(3, x.balance(0, 10));
        Check.due(10, x.balance(0, 9));
        Check.due(true, x.block(0, 10, true));
        Customs.facts(x, 0, 13, 0, -1);
        Customs.facts(x, 1, 13, 0, -1);
        Check.due(10, x.balance(0, 10));
    }

    private static void changesFromTheirDayOn() {
        Edge.term(49, "an ask of a day up to which the order was run, another amount, a blocked day change it from"
                + " their day on");
        PortHouse x = house();
        x.order(100, 5, 10);
        Customs.asks(x, 0, 6, 0, 50);
        Customs.asks(x, 0, 8, 0, 50);
        Check.due(2, x.run(0, 10));
        Customs.asks(x, 0, 7, 0, 20);
        Customs.facts(x, 0, 13, 50, 6);
        Customs.facts(x, 2, 13, 20, 7);
        Customs.facts(x, 1, 13, 30, 8);
        long[] balances = {100, 50, 30, 0, 0, 0};
        for (int day = 5; day <= 10; day++) {
            Check.due(balances[day - 5], x.balance(0, day));
        }
        Check.due(2, x.again(0, 60));
        Check.due(20, x.declared(1, 13));
        Check.due(true, x.block(0, 6, true));
        Customs.facts(x, 0, 13, 60, 7);
        Check.due(100, x.balance(0, 6));
        Check.due(20, x.balance(0, 7));
        Check.due(0, x.balance(0, 8));
    }

    // ---- promise 50

    private static PortHouse fresh() {
        PortHouse x = house();
        x.order(10, 5, 10);
        x.order(MOST - 5, 5, 10);
        x.order(7, 0, 400);
        return x;
    }

    private static final Edge.House FRESH = QuotasEdgesTest::fresh;

    private static void transferNoSuchOrder() {
        Edge.of(50, "IndexOutOfBoundsException if there are no such orders");
        for (int none : new int[] {-1, 3, FAR_BELOW, FAR_ABOVE}) {
            Edge.thrown(Check.INDEX, FRESH, x -> x.transfer(none, 0, 1));
            Edge.thrown(Check.INDEX, FRESH, x -> x.transfer(0, none, 1));
            Edge.thrown(Check.INDEX, FRESH, x -> x.transfer(none, none, 1));
        }
    }

    private static void transferSame() {
        Edge.of(50, "false if it is the same");
        for (int order = 0; order < 3; order++) {
            int o = order;
            Edge.refused(FRESH, x -> x.transfer(o, o, 1));
        }
        Check.due(true, fresh().transfer(0, 2, 1));
    }

    private static void transferWasRun() {
        Edge.of(50, "one of both was run");
        Edge.House run = () -> {
            PortHouse x = fresh();
            x.run(2, 0);
            return x;
        };
        Edge.refused(run, x -> x.transfer(0, 2, 1));
        Edge.refused(run, x -> x.transfer(2, 0, 1));
        Check.due(true, run.make().transfer(0, 1, 1));
    }

    private static void transferVolume() {
        Edge.of(50, "it is below 1 or not less than the volume");
        for (long volume : new long[] {Long.MIN_VALUE, -1, 0, 10, 11, Long.MAX_VALUE, (1L << 32) + 1}) {
            Edge.refused(FRESH, x -> x.transfer(0, 2, volume));
        }
        for (long volume : new long[] {1, 9}) {
            PortHouse x = fresh();
            Check.due(true, x.transfer(0, 2, volume));
            Check.due(10 - volume, x.quota(0, 0));
            Check.due(7 + volume, x.quota(2, 0));
        }
    }

    private static void transferTooMuch() {
        Edge.of(50, "or the other one would have more than 1000000000");
        Check.due(true, fresh().transfer(0, 1, 5));
        Edge.refused(FRESH, x -> x.transfer(0, 1, 6));
        PortHouse x = fresh();
        x.transfer(0, 1, 5);
        Check.due(MOST, x.quota(1, 0));
        Check.due(false, x.transfer(0, 1, 1));
        Check.due(true, x.transfer(1, 0, MOST - 5));
        Check.due(5, x.quota(1, 0));
        Check.due(MOST, x.quota(0, 0));
    }

    // ---- promises 51, 52

    private static void balanceNoSuchOrder() {
        Edge.of(51, "IndexOutOfBoundsException if there is no such order");
        for (int none : NO_ORDER) {
            Edge.thrown(Check.INDEX, ORDERS, x -> x.balance(none, 5));
            Edge.thrown(Check.INDEX, ORDERS, x -> x.balance(none, -1));
        }
    }

    private static void balanceDays() {
        Edge.of(51, "IllegalArgumentException if the day is ahead of its span");
        for (int day : new int[] {FAR_BELOW, -1, 0, 4}) {
            Edge.thrown(Check.ARGUMENT, ORDERS, x -> x.balance(0, day));
        }
        Edge.of(51, "or the order was not run up to it");
        for (int day : new int[] {8, 10, 11, 400, 401, FAR_ABOVE}) {
            Edge.thrown(Check.ARGUMENT, ORDERS, x -> x.balance(0, day));
        }
        Edge.thrown(Check.ARGUMENT, ORDERS, x -> x.balance(1, 0));
        Edge.of(51, "The balance at the end of a day");
        Edge.answered(100, ORDERS, x -> x.balance(0, 5));
        Edge.answered(40, ORDERS, x -> x.balance(0, 6));
        Edge.answered(40, ORDERS, x -> x.balance(0, 7));
        PortHouse x = orders();
        x.run(0, 12);
        Check.due(10, x.balance(0, 10));
        Check.due(10, x.balance(0, 12));
        Check.thrown(Check.ARGUMENT, () -> x.balance(0, 13));
    }

    private static void quotaEdges() {
        Edge.of(52, "IndexOutOfBoundsException if there is none such, or no such what");
        for (int none : NO_ORDER) {
            Edge.thrown(Check.INDEX, ORDERS, x -> x.quota(none, 0));
        }
        for (int what : new int[] {FAR_BELOW, -1, 5, FAR_ABOVE}) {
            Edge.thrown(Check.INDEX, ORDERS, x -> x.quota(0, what));
        }
    }

    private static void quotaFacts() {
        Edge.of(52, "what 0: VOLUME, 1: the day up to which it was run, 2: days that are BLOCKED, 3: asks that were not"
                + " treated yet, 4: 1 if it is CRITICAL");
        long[][] due = {{100, 7, 1, 1, 0}, {10, -1, 0, 0, 0}};
        PortHouse x = orders();
        for (int order = 0; order < 2; order++) {
            for (int what = 0; what < 5; what++) {
                Check.due(due[order][what], x.quota(order, what));
            }
        }
        Edge.of(52, "2: days that are BLOCKED: all of the longest span");
        PortHouse y = house();
        y.order(5, 0, 400);
        for (int day = 0; day <= 400; day++) {
            Check.due(true, y.block(0, day, true));
        }
        Check.due(401, y.quota(0, 2));
    }

    private static void quotaCritical() {
        Edge.term(52, "CRITICAL is an order whose balance, ten times, is below its volume");
        long[][] volumeAskedCritical = {{100, 89, 0}, {100, 90, 0}, {100, 91, 1}, {100, 100, 1}, {101, 90, 0},
            {101, 91, 1}, {109, 98, 0}, {109, 99, 1}, {1, 1, 1}, {10, 9, 0}, {10, 10, 1}, {9, 8, 0}};
        for (long[] a : volumeAskedCritical) {
            Check.due(a[2], treated(a[0], a[1]).quota(0, 4));
        }
        Edge.of(52, "(by the balance of the day up to which it was run)");
        PortHouse x = house();
        x.order(10, 5, 10);
        Customs.asks(x, 0, 6, 0, 10);
        Check.due(0, x.quota(0, 4));
        x.run(0, 5);
        Check.due(0, x.quota(0, 4));
        x.run(0, 6);
        Check.due(1, x.quota(0, 4));
        x.run(0, 400);
        Check.due(1, x.quota(0, 4));
    }
}
