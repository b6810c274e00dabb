/** Promises 76 to 87: declarations, their duty, and what becomes of them; counts. */
public final class DeclarationsTest {
    private static final int NONE = PortHouse.NONE;
    private static final int ALL = PortHouse.ALL;
    private static final int OPEN = PortHouse.OPEN;

    private final PortHouse x = new PortHouse(2, 4, 4, 4, 100);
    private int rows;

    private DeclarationsTest() {
        x.box(0, 0, 0, 0, 40, 5, 1);
    }

    public static void main(String[] args) {
        declare();
        declareOncePerGoods();
        fourHundred();
        amount();
        ask();
        askRefused();
        again();
        duty();
        dutyOfKinds();
        dutyWithAsk();
        dutyOfParts();
        dutyRounded();
        dutyAsKnown();
        dutyCantBeReckoned();
        assess();
        assessRefused();
        pay();
        payNothing();
        payRefused();
        claim();
        claimInParts();
        claimRefused();
        noRoomInTheLedger();
        correct();
        correctRefused();
        cancel();
        cancelFreesGoods();
        cancelRefused();
        declared();
        count();
        Check.end();
    }

    private int declared(int holder, long price) {
        return x.declare(x.goods(0, 1), holder, 1, 123456, 3, 20, price);
    }

    /** One more row, of a kind, with a rate. */
    private int measure(int kind, String rate) {
        rows++;
        Check.due(rows, x.row(12, ALL, 0, OPEN, kind, 0, 0));
        Check.due(true, Tape.rate(x, rows, rate) > 0);
        return rows;
    }

    private void facts(int d, int from, long... want) {
        for (int i = 0; i < want.length; i++) {
            Check.due(want[i], x.declared(d, from + i));
        }
    }

    /** A declaration that is SECURED with a duty of its price, by a guarantee of 1000. */
    private int secured(int holder, long price) {
        if (rows == 0) {
            measure(0, "100%");
        }
        x.guarantee(holder, 1000, 1, 1, false, 0);
        int d = declared(holder, price);
        Check.due(price, x.assess(d, 0));
        return d;
    }

    private static void declare() {
        Check.topic("promise 76");
        PortHouse x = new DeclarationsTest().x;
        Check.thrown(Check.ARGUMENT, () -> x.declare(0, 0, 0, 123456, 0, 0, 0L));
        x.goods(0, 5);
        long[][] wrong = {{-1, 0, 0, 123456, 0, 0, 0}, {1, 0, 0, 123456, 0, 0, 0}, {0, -1, 0, 123456, 0, 0, 0},
            {0, 8, 0, 123456, 0, 0, 0}, {0, 0, -1, 123456, 0, 0, 0}, {0, 0, 4, 123456, 0, 0, 0},
            {0, 0, 0, 1234, 0, 0, 0}, {0, 0, 0, 99999, 0, 0, 0}, {0, 0, 0, 1000000, 0, 0, 0},
            {0, 0, 0, 123456, -1, 0, 0}, {0, 0, 0, 123456, 16, 0, 0}, {0, 0, 0, 123456, 31, 0, 0},
            {0, 0, 0, 123456, 0, -1, 0}, {0, 0, 0, 123456, 0, 10001, 0}, {0, 0, 0, 123456, 0, 20000, 0},
            {0, 0, 0, 123456, 0, 0, -1}, {0, 0, 0, 123456, 0, 0, 100000001L}};
        for (long[] a : wrong) {
            Check.thrown(Check.ARGUMENT, () -> x.declare((int) a[0], (int) a[1], (int) a[2], (int) a[3], (int) a[4],
                    (int) a[5], a[6]));
        }
        Check.due(0, x.count(35));
        Check.due(0, x.declare(0, 7, 3, 999999, 15, 10000, 100000000L));
        long[] want = {0, 7, 3, 999999, 15, 10000, 100000000L, 0, 0, 0, NONE, NONE, 0, 0, NONE};
        for (int what = 0; what < 23; what++) {
            Check.due(what < 15 ? want[what] : NONE, x.declared(0, what));
        }
    }

    private static void declareOncePerGoods() {
        Check.topic("promise 76, goods have one that is not CANCELLED");
        PortHouse x = new DeclarationsTest().x;
        x.goods(0, 5);
        x.goods(0, 5);
        Check.due(0, x.declare(0, 0, 0, 123456, 0, 0, 0L));
        Check.thrown(Check.STATE, () -> x.declare(0, 0, 0, 123456, 0, 0, 0L));
        Check.thrown(Check.ARGUMENT, () -> x.declare(0, 8, 0, 123456, 0, 0, 0L));
        Check.due(1, x.declare(1, 0, 0, 123456, 0, 0, 0L));
        Check.due(1, x.cancel(0));
        Check.due(2, x.declare(0, 0, 0, 123456, 0, 0, 0L));
        Check.thrown(Check.STATE, () -> x.declare(0, 0, 0, 123456, 0, 0, 0L));
        x.assess(2, 0);
        x.pay(2, 0);
        Check.thrown(Check.STATE, () -> x.declare(0, 0, 0, 123456, 0, 0, 0L));
    }

    private static void fourHundred() {
        Check.topic("promise 76, four hundred");
        PortHouse x = new DeclarationsTest().x;
        x.goods(0, 5);
        for (int i = 0; i < 400; i++) {
            Check.due(i, x.declare(0, 0, 0, 123456, 0, 0, 0L));
            Check.due(1, x.cancel(i));
        }
        Check.thrown(Check.STATE, () -> x.declare(0, 0, 0, 123456, 0, 0, 0L));
        Check.thrown(Check.ARGUMENT, () -> x.declare(1, 0, 0, 123456, 0, 0, 0L));
        Check.due(400, x.count(40));
    }

    private static void amount() {
        Check.topic("promise 77");
        DeclarationsTest t = new DeclarationsTest();
        int d = t.declared(0, 5);
        Check.due(true, t.x.amount(d, 0, 0));
        Check.due(true, t.x.amount(d, 7, 100000000L));
        t.facts(d, 15, 0, NONE, NONE, NONE, NONE, NONE, NONE, 100000000L);
        Check.due(true, t.x.amount(d, 0, NONE));
        Check.due(true, t.x.amount(d, 0, NONE));
        t.facts(d, 15, NONE);
        Check.due(false, t.x.amount(d, -1, 5));
        Check.due(false, t.x.amount(d, 8, 5));
        Check.due(false, t.x.amount(d, 0, -2));
        Check.due(false, t.x.amount(d, 0, 100000001L));
        Check.due(false, t.x.amount(d, 0, Long.MIN_VALUE));
        Check.due(false, t.x.amount(1, 0, 5));
        Check.due(false, t.x.amount(-1, 0, 5));
        t.x.assess(d, 0);
        Check.due(false, t.x.amount(d, 0, 5));
        t.x.cancel(d);
        Check.due(false, t.x.amount(d, 0, 5));
        t.facts(d, 15, NONE);
    }

    private static void ask() {
        Check.topic("promise 78");
        DeclarationsTest t = new DeclarationsTest();
        t.x.order(100, 21, 30);
        t.x.order(100, 10, 20);
        t.x.order(100, 20, 20);
        t.x.order(100, 10, 19);
        int d = t.declared(0, 5);
        Check.due(0, t.x.ask(d, 0, 5));
        Check.due(0, t.x.ask(d, 3, 5));
        t.facts(d, 11, NONE, 0, 0, NONE);
        Check.due(1, t.x.ask(d, 1, 1000000));
        t.facts(d, 11, 1, 1000000, 0, NONE);
        Check.thrown(Check.STATE, () -> t.x.ask(d, 2, 5));
        Check.thrown(Check.STATE, () -> t.x.ask(d, 0, 5));
        int e = t.declared(0, 5);
        Check.due(1, t.x.ask(e, 2, 1));
        t.facts(e, 11, 2, 1, 0, NONE);
        t.x.run(2, 20);
        t.facts(e, 11, 2, 1, 1, 20);
    }

    private static void askRefused() {
        Check.topic("promise 78, refused");
        DeclarationsTest t = new DeclarationsTest();
        t.x.order(100, 10, 20);
        int d = t.declared(0, 5);
        Check.thrown(Check.ARGUMENT, () -> t.x.ask(d, 0, 0));
        Check.thrown(Check.ARGUMENT, () -> t.x.ask(d, 0, -1));
        Check.thrown(Check.ARGUMENT, () -> t.x.ask(d, 0, 1000001));
        Check.thrown(Check.ARGUMENT, () -> t.x.ask(1, 0, 5));
        Check.thrown(Check.ARGUMENT, () -> t.x.ask(-1, 0, 5));
        Check.thrown(Check.ARGUMENT, () -> t.x.ask(d, 1, 0));
        Check.thrown(Check.INDEX, () -> t.x.ask(d, 1, 5));
        Check.thrown(Check.INDEX, () -> t.x.ask(d, -1, 5));
        t.x.ask(d, 0, 5);
        Check.thrown(Check.INDEX, () -> t.x.ask(d, 1, 5));
        Check.thrown(Check.ARGUMENT, () -> t.x.ask(d, 0, 0));
        int e = t.declared(0, 5);
        t.x.assess(e, 0);
        Check.thrown(Check.ARGUMENT, () -> t.x.ask(e, 0, 5));
    }

    private static void again() {
        Check.topic("promise 79");
        DeclarationsTest t = new DeclarationsTest();
        t.x.order(100, 10, 20);
        int d = t.declared(0, 5);
        Check.thrown(Check.ARGUMENT, () -> t.x.again(d, 5));
        t.x.ask(d, 0, 50);
        Check.due(0, t.x.again(d, 60));
        t.facts(d, 12, 60, 0);
        t.x.run(0, 20);
        Check.due(1, t.x.again(d, 1000000));
        t.facts(d, 12, 1000000, 100, 20);
        Check.thrown(Check.ARGUMENT, () -> t.x.again(d, 0));
        Check.thrown(Check.ARGUMENT, () -> t.x.again(d, 1000001));
        Check.thrown(Check.ARGUMENT, () -> t.x.again(1, 5));
        Check.thrown(Check.ARGUMENT, () -> t.x.again(-1, 5));
        t.x.assess(d, 0);
        Check.due(1, t.x.again(d, 7));
        t.x.pay(d, 0);
        Check.due(1, t.x.again(d, 8));
        t.facts(d, 12, 8, 8, 20);
        int e = t.declared(0, 5);
        t.x.ask(e, 0, 5);
        t.x.cancel(e);
        Check.thrown(Check.ARGUMENT, () -> t.x.again(e, 5));
    }

    private static void duty() {
        Check.topic("promise 80");
        DeclarationsTest t = new DeclarationsTest();
        int d = t.declared(0, 20000);
        Check.due(0, t.x.duty(d, 0));
        t.x.row(12, ALL, 0, OPEN, 5, 0, 0);
        t.rows = 1;
        Check.due(0, t.x.duty(d, 0));
        t.measure(0, "5%");
        Check.due(1000, t.x.duty(d, 0));
        t.measure(4, "1%");
        t.measure(7, "2/B");
        t.x.amount(d, 1, 1500);
        Check.due(1203, t.x.duty(d, 0));
        Check.thrown(Check.ARGUMENT, () -> t.x.duty(1, 0));
        Check.thrown(Check.ARGUMENT, () -> t.x.duty(-1, 0));
        Check.thrown(Check.ARGUMENT, () -> t.x.duty(d, -1));
        Check.thrown(Check.ARGUMENT, () -> t.x.duty(d, 10001));
        t.x.papers(2);
        t.x.condition(3, 0);
        Check.due(1003, t.x.duty(d, 0));
        t.x.papers(1);
        Check.due(1203, t.x.duty(d, 0));
        t.x.cancel(d);
        Check.due(1203, t.x.duty(d, 0));
        t.facts(d, 8, 0);
    }

    private static void dutyOfKinds() {
        Check.topic("promise 80, kinds without an ask");
        for (int kind = 0; kind < 8; kind++) {
            DeclarationsTest t = new DeclarationsTest();
            t.measure(kind, "5%");
            Check.due(kind == 1 ? 0 : 1000, t.x.duty(t.declared(0, 20000), 0));
        }
        Check.topic("promise 80, a row that is beaten does not count, one without a rate beats as well");
        DeclarationsTest t = new DeclarationsTest();
        t.measure(0, "5%");
        t.x.row(123456, 3, 0, OPEN, 0, 0, 0);
        int d = t.declared(0, 20000);
        Check.due(0, t.x.duty(d, 0));
        Tape.rate(t.x, 2, "7%");
        Check.due(1400, t.x.duty(d, 0));
    }

    private static void dutyWithAsk() {
        Check.topic("promise 80, kinds 0 and 1 by what the ask HAS");
        DeclarationsTest t = new DeclarationsTest();
        t.measure(0, "10%");
        t.measure(1, "1%");
        t.measure(2, "100%");
        t.x.order(60, 20, 20);
        int d = t.declared(0, 1000);
        Check.due(1100, t.x.duty(d, 0));
        t.x.ask(d, 0, 100);
        Check.due(1100, t.x.duty(d, 0));
        t.x.run(0, 20);
        Check.due(1000 + 40 + 6, t.x.duty(d, 0));
        t.x.again(d, 60);
        Check.due(1000 + 10, t.x.duty(d, 0));
        t.x.again(d, 80);
        Check.due(1000 + 25 + 8, t.x.duty(d, 0));
        t.x.block(0, 20, true);
        Check.due(1100, t.x.duty(d, 0));
        t.x.cancel(d);
        Check.topic("promise 80, an amount of 0 has neither");
        Check.due(1000, t.x.duty(d, 0));
    }

    private static void dutyOfParts() {
        Check.topic("promise 80, price and amounts in parts, rounded down, the rest what is wanting");
        DeclarationsTest t = new DeclarationsTest();
        t.measure(0, "100% + 1000/C");
        t.measure(1, "100% + 1000/C");
        t.x.order(1, 20, 20);
        int d = t.declared(0, 100);
        t.x.amount(d, 2, 5);
        t.x.ask(d, 0, 3);
        t.x.run(0, 20);
        Check.due(67 + 4 + 33 + 1, t.x.duty(d, 0));
        t.x.amount(d, 2, 0);
        Check.due(100, t.x.duty(d, 0));
        Check.topic("promise 80, a step goes by the price of its part");
        DeclarationsTest u = new DeclarationsTest();
        u.measure(1, "step(100:200=7)");
        u.measure(0, "step(100:200=50)");
        u.x.order(1, 20, 20);
        int e = u.declared(0, 99);
        u.x.ask(e, 0, 2);
        u.x.run(0, 20);
        Check.due(57, u.x.duty(e, 0));
        Check.topic("promise 80, a part with a price of 0");
        DeclarationsTest v = new DeclarationsTest();
        v.measure(1, "step(100:1=7)");
        v.x.order(1, 20, 20);
        int f = v.declared(0, 1);
        v.x.ask(f, 0, 2);
        v.x.run(0, 20);
        Check.due(7, v.x.duty(f, 0));
    }

    private static void dutyRounded() {
        Check.topic("promise 80, each row in whole cents, half up");
        DeclarationsTest t = new DeclarationsTest();
        t.measure(4, "0.5%");
        t.measure(5, "0.5%");
        t.measure(6, "0.499%");
        Check.due(2, t.x.duty(t.declared(0, 100), 0));
        Check.due(0, t.x.duty(t.declared(0, 99), 0));
        t.measure(7, "1% - 2%");
        Check.due(2, t.x.duty(t.declared(0, 100), 0));
        Check.topic("promise 80, a micro below the half, and the half");
        DeclarationsTest u = new DeclarationsTest();
        u.measure(0, "0.001/A");
        int d = u.declared(0, 0);
        u.x.amount(d, 0, 499999);
        Check.due(0, u.x.duty(d, 0));
        u.x.amount(d, 0, 500000);
        Check.due(1, u.x.duty(d, 0));
        u.x.amount(d, 0, 1499999);
        Check.due(1, u.x.duty(d, 0));
    }

    private static void dutyAsKnown() {
        Check.topic("promise 80, as known on a day");
        DeclarationsTest t = new DeclarationsTest();
        t.x.row(12, ALL, 0, 20, 4, 0, 5);
        Tape.rate(t.x, 1, "5%");
        t.x.end(1, 19, 8);
        int d = t.declared(0, 100);
        Check.due(0, t.x.duty(d, 4));
        Check.due(5, t.x.duty(d, 5));
        Check.due(5, t.x.duty(d, 7));
        Check.due(0, t.x.duty(d, 8));
        Check.due(0, t.x.duty(d, 10000));
    }

    private static void dutyCantBeReckoned() {
        Check.topic("promise 80, a unit has no amount");
        DeclarationsTest t = new DeclarationsTest();
        t.measure(0, "min(free, 1/D)");
        t.measure(1, "1/E");
        int d = t.declared(0, 100);
        Check.thrown(Check.UNSUPPORTED, () -> t.x.duty(d, 0));
        Check.thrown(Check.ARGUMENT, () -> t.x.duty(d, -1));
        t.x.amount(d, 3, 0);
        Check.due(0, t.x.duty(d, 0));
        t.x.order(100, 20, 20);
        t.x.ask(d, 0, 5);
        t.x.run(0, 20);
        Check.thrown(Check.UNSUPPORTED, () -> t.x.duty(d, 0));
        t.x.amount(d, 4, 9000);
        Check.due(9, t.x.duty(d, 0));
        t.x.amount(d, 3, NONE);
        Check.due(9, t.x.duty(d, 0));
        Check.topic("promise 80, above 1000000000");
        DeclarationsTest u = new DeclarationsTest();
        u.measure(4, "500%");
        u.measure(5, "500%");
        int e = u.declared(0, 100000000L);
        Check.due(1000000000L, u.x.duty(e, 0));
        u.measure(6, "step(1:1=1)");
        Check.due(1000000000L, u.x.duty(e, 0));
        u.measure(7, "step(1:0=1)");
        Check.thrown(Check.UNSUPPORTED, () -> u.x.duty(e, 0));
        Check.thrown(Check.UNSUPPORTED, () -> u.x.assess(e, 0));
        u.facts(e, 7, 0, 0, 0);
    }

    private static void assess() {
        Check.topic("promise 81");
        DeclarationsTest t = new DeclarationsTest();
        t.measure(0, "100%");
        t.x.guarantee(2, 1000, 1, 2, false, 0);
        int d = t.declared(2, 700);
        Check.due(11, t.x.bars(0, 0));
        Check.due(700, t.x.assess(d, 0));
        t.facts(d, 7, 1, 700, 1, NONE);
        Check.due(2, t.x.reservation(1, 0));
        Check.due(350, t.x.security(1, 2));
        Check.due(NONE, t.x.bars(0, 0));
        Check.due(1, t.x.release(0));
        Check.thrown(Check.ARGUMENT, () -> t.x.assess(d, 0));
        Check.topic("promise 81, a duty of 0 reserves nothing");
        int e = t.declared(5, 0);
        Check.due(0, t.x.assess(e, 0));
        t.facts(e, 7, 1, 0, 0, NONE);
        Check.due(1, t.x.count(21));
        Check.due(2, t.x.count(37));
    }

    private static void assessRefused() {
        Check.topic("promise 81, refused");
        DeclarationsTest t = new DeclarationsTest();
        t.measure(0, "100% + 1/A");
        t.x.guarantee(2, 1000, 1, 2, false, 0);
        int d = t.declared(2, 2001);
        Check.thrown(Check.ARGUMENT, () -> t.x.assess(1, 0));
        Check.thrown(Check.ARGUMENT, () -> t.x.assess(-1, 0));
        Check.thrown(Check.ARGUMENT, () -> t.x.assess(d, -1));
        Check.thrown(Check.ARGUMENT, () -> t.x.assess(d, 10001));
        Check.thrown(Check.UNSUPPORTED, () -> t.x.assess(d, 0));
        t.x.amount(d, 0, 0);
        Check.due(-2002, t.x.assess(d, 0));
        t.facts(d, 7, 0, 0, 0, NONE);
        Check.due(11, t.x.bars(0, 0));
        t.x.fails(1, true);
        Check.due(-2002, t.x.assess(d, 0));
        Check.due(0, t.x.count(25));
        Check.due(true, t.x.amount(d, 1, 5));
        Check.topic("promise 81, without any guarantee");
        int e = t.declared(4, 5);
        t.x.amount(e, 0, 0);
        Check.due(-2, t.x.assess(e, 0));
    }

    private static void pay() {
        Check.topic("promise 82");
        DeclarationsTest t = new DeclarationsTest();
        int d = t.secured(3, 700);
        Check.due(0, t.x.pay(d, 44));
        t.facts(d, 7, 2, 700, 1, 0);
        Check.due(2, t.x.reservation(1, 2));
        Check.due(2, t.x.batchOf(0, 1));
        long[] first = {0, 3, -700, 20, 44};
        long[] second = {0, 8, 700, 20, 44};
        for (int what = 0; what < 5; what++) {
            Check.due(first[what], t.x.read(0, what));
            Check.due(second[what], t.x.read(1, what));
        }
        Check.due(1, t.x.batchOf(0, 0));
        Check.due(44, t.x.count(31));
        Check.due(1000, t.x.security(1, 3));
        Check.due(1, t.x.release(0));
        Check.thrown(Check.ARGUMENT, () -> t.x.pay(d, 44));
    }

    private static void payNothing() {
        Check.topic("promise 82, a duty of 0");
        DeclarationsTest t = new DeclarationsTest();
        int d = t.declared(3, 700);
        t.x.assess(d, 0);
        t.x.close(100000);
        Check.due(NONE, t.x.pay(d, 0));
        t.facts(d, 7, 2, 0, 0, NONE);
        Check.due(0, t.x.count(28));
        Check.due(1, t.x.count(38));
    }

    private static void payRefused() {
        Check.topic("promise 82, refused");
        DeclarationsTest t = new DeclarationsTest();
        int d = t.secured(3, 700);
        int e = t.declared(3, 5);
        Check.thrown(Check.ARGUMENT, () -> t.x.pay(e, 5));
        Check.thrown(Check.ARGUMENT, () -> t.x.pay(2, 5));
        Check.thrown(Check.ARGUMENT, () -> t.x.pay(-1, 5));
        Check.thrown(Check.ARGUMENT, () -> t.x.pay(d, -1));
        Check.thrown(Check.ARGUMENT, () -> t.x.pay(d, 100001));
        t.x.close(5);
        Check.thrown(Check.STATE, () -> t.x.pay(d, 5));
        int b = t.x.batch(0, 9);
        t.x.entry(b, 0, 1);
        t.x.entry(b, 1, -1);
        t.x.post(b);
        Check.thrown(Check.STATE, () -> t.x.pay(d, 8));
        Check.thrown(Check.STATE, () -> t.x.claim(d, 8));
        t.facts(d, 7, 1, 700, 1, NONE);
        Check.due(0, t.x.reservation(1, 2));
        Check.due(1, t.x.count(28));
        Check.due(0, t.x.count(32));
        for (int i = 1; i < 800; i++) {
            t.x.batch(0, 0);
        }
        Check.thrown(Check.STATE, () -> t.x.pay(d, 9));
        Check.thrown(Check.STATE, () -> t.x.claim(d, 9));
        t.facts(d, 7, 1, 700, 1, NONE);
    }

    private static void claim() {
        Check.topic("promise 83");
        DeclarationsTest t = new DeclarationsTest();
        int d = t.secured(3, 700);
        Check.due(700, t.x.claim(d, 44));
        t.facts(d, 7, 3, 700, 1, 0);
        Check.due(3, t.x.reservation(1, 2));
        Check.due(2, t.x.batchOf(0, 1));
        long[] first = {0, 9, -700, 20, 44};
        long[] second = {0, 8, 700, 20, 44};
        for (int what = 0; what < 5; what++) {
            Check.due(first[what], t.x.read(0, what));
            Check.due(second[what], t.x.read(1, what));
        }
        Check.due(300, t.x.security(1, 1));
        Check.due(700, t.x.security(1, 8));
        Check.due(1, t.x.release(0));
        Check.thrown(Check.ARGUMENT, () -> t.x.claim(d, 44));
        Check.thrown(Check.ARGUMENT, () -> t.x.pay(d, 44));
    }

    private static void claimInParts() {
        Check.topic("promise 83, amounts that got less than what was covered");
        DeclarationsTest t = new DeclarationsTest();
        t.measure(0, "100%");
        t.x.guarantee(3, 100, 1, 10, false, 0);
        t.x.guarantee(3, 50, 1, 1, false, 0);
        int a = t.declared(3, 600);
        int b = t.declared(3, 420);
        t.x.assess(a, 0);
        t.x.assess(b, 0);
        Check.due(100, t.x.claim(a, 1));
        long[] accounts = {9, 3, 8, 9, 3, 8};
        long[] cents = {-100, -500, 600, -20, -400, 420};
        Check.due(20, t.x.claim(b, 2));
        for (int i = 0; i < 6; i++) {
            Check.due(accounts[i], t.x.read(i, 1));
            Check.due(cents[i], t.x.read(i, 2));
        }
        Check.due(0, t.x.security(1, 1));
        Check.due(30, t.x.security(2, 1));
        Check.topic("promise 83, nothing is left: no entry of SECURITIES");
        DeclarationsTest u = new DeclarationsTest();
        u.measure(0, "100%");
        u.x.guarantee(3, 100, 1, 10, false, 0);
        int c = u.declared(3, 600);
        int e = u.declared(3, 400);
        u.x.assess(c, 0);
        u.x.assess(e, 0);
        u.x.claim(c, 1);
        Check.due(0, u.x.claim(e, 1));
        Check.due(2, u.x.batchOf(1, 1));
        Check.due(3, u.x.read(3, 1));
        Check.due(-400, u.x.read(3, 2));
        Check.due(400, u.x.read(4, 2));
        Check.due(5, u.x.count(29));
    }

    private static void claimRefused() {
        Check.topic("promise 83, refused");
        DeclarationsTest t = new DeclarationsTest();
        int d = t.secured(3, 700);
        int e = t.declared(3, 0);
        Check.thrown(Check.ARGUMENT, () -> t.x.claim(e, 5));
        t.x.assess(e, 0);
        Check.thrown(Check.ARGUMENT, () -> t.x.claim(e, 5));
        Check.thrown(Check.ARGUMENT, () -> t.x.claim(2, 5));
        Check.thrown(Check.ARGUMENT, () -> t.x.claim(-1, 5));
        Check.thrown(Check.ARGUMENT, () -> t.x.claim(d, -1));
        Check.thrown(Check.ARGUMENT, () -> t.x.claim(d, 100001));
        t.x.close(5);
        Check.thrown(Check.STATE, () -> t.x.claim(d, 5));
        t.facts(d, 7, 1, 700, 1, NONE);
        Check.due(1000, t.x.security(1, 1));
        Check.due(700, t.x.claim(d, 6));
        int least = t.declared(3, 1);
        t.x.assess(least, 0);
        Check.due(300, t.x.security(1, 1));
        Check.due(1, t.x.claim(least, 6));
        Check.due(299, t.x.security(1, 1));
        Check.due(701, t.x.security(1, 8));
    }

    // So many entries in the ledger, in batches of 20 and one of what is left (2 at least).
    private static void fill(PortHouse x, int entries) {
        int left = entries;
        while (left > 0) {
            int n = left == 21 || left == 22 ? 10 : Math.min(20, left);
            int b = x.batch(0, 0);
            for (int i = 1; i < n; i++) {
                x.entry(b, 10, 1);
            }
            x.entry(b, 11, 1 - n);
            Check.due(1, x.post(b));
            left -= n;
        }
    }

    private static void noRoomInTheLedger() {
        Check.topic("promises 82 to 84, room for the entries of a declaration's batch");
        DeclarationsTest t = new DeclarationsTest();
        int d = t.secured(3, 700);
        int e = t.declared(3, 100);
        t.x.assess(e, 0);
        fill(t.x, 3996);
        Check.due(199 + 1, t.x.count(28));
        t.x.pay(e, 0);
        Tape.rate(t.x, 1, "90%");
        Check.due(-10, t.x.correct(e, 0));
        Check.due(4000, t.x.count(29));
        Tape.rate(t.x, 1, "80%");
        Check.thrown(Check.STATE, () -> t.x.correct(e, 0));
        Check.thrown(Check.STATE, () -> t.x.pay(d, 0));
        Check.topic("promises 82 to 84, room for one entry alone");
        DeclarationsTest u = new DeclarationsTest();
        int f = u.secured(3, 700);
        int g = u.declared(3, 100);
        u.x.assess(g, 0);
        u.x.pay(g, 0);
        Tape.rate(u.x, 1, "90%");
        fill(u.x, 3999 - 2);
        Check.thrown(Check.STATE, () -> u.x.pay(f, 0));
        Check.thrown(Check.STATE, () -> u.x.claim(f, 0));
        Check.thrown(Check.STATE, () -> u.x.correct(g, 0));
        u.facts(f, 7, 1, 700, 1, NONE);
        u.facts(g, 7, 2, 100);
        Check.topic("promise 83, room for the two entries of a claim, not for three");
        DeclarationsTest v = new DeclarationsTest();
        v.measure(0, "100%");
        v.x.guarantee(3, 100, 1, 10, false, 0);
        int h = v.declared(3, 100);
        int i = v.declared(3, 200);
        v.x.assess(h, 0);
        v.x.assess(i, 0);
        fill(v.x, 3998);
        Check.thrown(Check.STATE, () -> v.x.claim(i, 0));
        Check.due(100, v.x.claim(h, 0));
        Check.due(4000, v.x.count(29));
        Check.topic("promise 83, room for the two entries of a claim that gets nothing");
        DeclarationsTest w = new DeclarationsTest();
        w.measure(0, "100%");
        w.x.guarantee(3, 100, 1, 10, false, 0);
        int j = w.declared(3, 600);
        int k = w.declared(3, 400);
        w.x.assess(j, 0);
        w.x.assess(k, 0);
        fill(w.x, 3995);
        Check.due(100, w.x.claim(j, 0));
        Check.due(0, w.x.claim(k, 0));
        Check.due(4000, w.x.count(29));
        Check.topic("promise 83, no room for a claim that gets nothing where one entry has room");
        DeclarationsTest y = new DeclarationsTest();
        y.measure(0, "100%");
        y.x.guarantee(3, 100, 1, 10, false, 0);
        int m = y.declared(3, 600);
        int n = y.declared(3, 400);
        y.x.assess(m, 0);
        y.x.assess(n, 0);
        fill(y.x, 3996);
        Check.due(100, y.x.claim(m, 0));
        Check.due(3999, y.x.count(29));
        Check.thrown(Check.STATE, () -> y.x.claim(n, 0));
        lastRoomInTheLedger();
    }

    private static void lastRoomInTheLedger() {
        Check.topic("promises 82, 83, the last two entries: for a payment, not for a claim that needs three");
        DeclarationsTest t = new DeclarationsTest();
        t.measure(0, "100%");
        t.x.guarantee(3, 1, 1, 10, false, 0);
        t.x.guarantee(4, 50, 1, 1, false, 0);
        int three = t.declared(3, 5);
        int two = t.declared(4, 50);
        t.x.assess(three, 0);
        t.x.assess(two, 0);
        fill(t.x, 3998);
        Check.thrown(Check.STATE, () -> t.x.claim(three, 0));
        int batches = t.x.count(28);
        Check.due(batches, t.x.pay(two, 0));
        Check.due(4000, t.x.count(29));
    }

    private static void correct() {
        Check.topic("promise 84");
        DeclarationsTest t = new DeclarationsTest();
        int d = t.secured(3, 700);
        t.x.pay(d, 1);
        Check.due(0, t.x.correct(d, 0));
        Check.due(1, t.x.count(28));
        t.facts(d, 7, 2, 700, 1, 0);
        Tape.rate(t.x, 1, "110%");
        Check.due(70, t.x.correct(d, 5));
        t.facts(d, 7, 2, 770, 1, 1);
        Check.due(3, t.x.read(2, 1));
        Check.due(-70, t.x.read(2, 2));
        Check.due(20, t.x.read(2, 3));
        Check.due(5, t.x.read(2, 4));
        Check.due(8, t.x.read(3, 1));
        Check.due(70, t.x.read(3, 2));
        Tape.rate(t.x, 1, "10%");
        Check.due(-700, t.x.correct(d, 6));
        t.facts(d, 8, 70, 1, 2);
        Check.due(700, t.x.read(4, 2));
        Check.due(-700, t.x.read(5, 2));
        Check.due(-70, t.x.account(3, 20, 6));
        Check.topic("promise 84, of a CLAIMED one, and as known on a day");
        Tape.rate(t.x, 1, "100%");
        int e = t.secured(4, 50);
        t.x.claim(e, 6);
        t.x.end(1, 5, 9);
        Check.due(0, t.x.correct(e, 8));
        Check.due(-50, t.x.correct(e, 9));
        t.facts(e, 7, 3, 0);
    }

    private static void correctRefused() {
        Check.topic("promise 84, refused");
        DeclarationsTest t = new DeclarationsTest();
        int d = t.secured(3, 700);
        Check.thrown(Check.ARGUMENT, () -> t.x.correct(d, 5));
        t.x.pay(d, 50);
        Check.thrown(Check.ARGUMENT, () -> t.x.correct(d, -1));
        Check.thrown(Check.ARGUMENT, () -> t.x.correct(d, 10001));
        Check.thrown(Check.ARGUMENT, () -> t.x.correct(1, 5));
        Check.thrown(Check.ARGUMENT, () -> t.x.correct(-1, 5));
        Tape.rate(t.x, 1, "1/G");
        Check.thrown(Check.UNSUPPORTED, () -> t.x.correct(d, 5));
        Tape.rate(t.x, 1, "90%");
        Check.thrown(Check.STATE, () -> t.x.correct(d, 49));
        t.facts(d, 7, 2, 700, 1, 0);
        Check.due(1, t.x.count(28));
        Check.due(-70, t.x.correct(d, 50));
        t.x.close(50);
        Check.due(0, t.x.correct(d, 3));
    }

    private static void cancel() {
        Check.topic("promise 85");
        DeclarationsTest t = new DeclarationsTest();
        int d = t.secured(3, 700);
        int e = t.declared(3, 5);
        Check.due(11, t.x.bars(0, 0));
        Check.due(1, t.x.cancel(e));
        t.facts(e, 7, 4, 0, 0, NONE);
        Check.due(1, t.x.cancel(d));
        t.facts(d, 7, 4, 700, 1, NONE);
        Check.due(1, t.x.reservation(1, 2));
        Check.due(1000, t.x.security(1, 4));
        Check.due(0, t.x.cancel(d));
        Check.due(0, t.x.count(22));
        Check.due(2, t.x.count(40));
        Check.thrown(Check.ARGUMENT, () -> t.x.cancel(2));
        Check.thrown(Check.ARGUMENT, () -> t.x.cancel(-1));
    }

    private static void cancelFreesGoods() {
        Check.topic("promise 85, goods are free until they are cancelled");
        DeclarationsTest t = new DeclarationsTest();
        int d = t.secured(3, 700);
        Check.due(1, t.x.release(0));
        t.x.cancel(d);
        Check.due(0, t.x.release(0));
        Check.due(11, t.x.bars(0, 0));
        int e = t.x.declare(0, 3, 0, 123456, 0, 0, 5L);
        Check.due(0, t.x.release(0));
        t.x.assess(e, 0);
        Check.due(1, t.x.release(0));
        Check.due(2, t.x.declared(e, 9));
        t.x.goods(0, 1);
        Check.due(0, t.x.release(0));
    }

    private static void cancelRefused() {
        Check.topic("promise 85, refused");
        DeclarationsTest t = new DeclarationsTest();
        int d = t.secured(3, 700);
        t.x.pay(d, 0);
        Check.due(0, t.x.cancel(d));
        t.facts(d, 7, 2);
        int e = t.declared(3, 100);
        t.x.assess(e, 0);
        t.x.claim(e, 0);
        Check.due(0, t.x.cancel(e));
        Check.topic("promise 85, the box is BEHIND the gate");
        PortHouse y = new PortHouse(1, 1, 1, 1, 40);
        int box = Quay.loose(y, 0, 3, 5, 1);
        int f = Quay.freed(y, box);
        y.part(box, 3000);
        y.away(box, 1 << 15, true);
        Check.due(1, y.cancel(f));
        int g = y.declare(0, 0, 0, 123456, 0, 0, 0L);
        y.assess(g, 0);
        y.away(box, 1 << 15, false);
        Check.due(1, y.gate(box));
        Check.due(0, y.cancel(g));
        Check.due(1, y.declared(g, 7));
    }

    private static void declared() {
        Check.topic("promise 86");
        DeclarationsTest t = new DeclarationsTest();
        t.declared(0, 5);
        int d = t.declared(6, 77);
        t.facts(d, 0, 1, 6, 1, 123456, 3, 20, 77, 0, 0, 0, NONE, NONE, 0, 0, NONE, NONE);
        t.x.amount(d, 4, 9);
        t.facts(d, 15, NONE, NONE, NONE, NONE, 9, NONE, NONE, NONE);
        int[][] wrong = {{-1, 0}, {2, 0}, {0, -1}, {0, 23}};
        for (int[] a : wrong) {
            Check.thrown(Check.INDEX, () -> t.x.declared(a[0], a[1]));
        }
    }

    private static void count() {
        Check.topic("promise 87");
        DeclarationsTest t = new DeclarationsTest();
        int[] none = {-1, 41, 99, 102, 112, 199, 204, 299, 304, 404, 504, 600, 615, 624, 699, 700, 716, 1000,
            Integer.MAX_VALUE, Integer.MIN_VALUE, -100, -200, -616};
        for (int what : none) {
            Check.due(NONE, t.x.count(what));
        }
        t.secured(0, 5);
        t.declared(0, 5);
        t.declared(0, 5);
        t.x.assess(2, 0);
        t.x.pay(2, 0);
        t.declared(0, 5);
        t.x.assess(3, 0);
        t.x.claim(3, 0);
        for (int i = 0; i < 5; i++) {
            t.declared(0, 5);
        }
        t.x.assess(8, 0);
        t.x.cancel(8);
        t.x.cancel(7);
        int[] want = {9, 4, 1, 1, 1, 2};
        for (int i = 0; i < want.length; i++) {
            Check.due(want[i], t.x.count(35 + i));
        }
        Check.due(4, t.x.count(21));
        Check.due(1, t.x.count(22));
        Check.due(2, t.x.count(28));
        Check.due(4, t.x.count(29));
    }
}
