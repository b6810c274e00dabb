/** Promises 47 to 52, with 78 and 79 as far as asks change an order's course. */
public final class QuotasTest {
    private static final int NONE = PortHouse.NONE;

    private final PortHouse x = new PortHouse(1, 4, 4, 4, 100);

    private QuotasTest() {
        x.box(0, 0, 0, 0, 40, 5, 1);
    }

    public static void main(String[] args) {
        order();
        sixteenOrders();
        run();
        runBounds();
        runCounts();
        shares();
        leftByDesk();
        leftNotToThoseThatAreFull();
        block();
        blockedAtTheEnd();
        blockChangesTheCourse();
        transfer();
        balance();
        quota();
        critical();
        lateAsk();
        againChanges();
        cancelledAsk();
        ordersApart();
        Check.end();
    }

    private int declared(int desk, int day) {
        return x.declare(x.goods(0, 1), 0, desk, 123456, 0, day, 0L);
    }

    private int asks(int desk, int day, int order, long amount) {
        int d = declared(desk, day);
        Check.due(1, x.ask(d, order, amount));
        return d;
    }

    private void has(int d, long amount, long has, long day) {
        Check.due(amount, x.declared(d, 12));
        Check.due(has, x.declared(d, 13));
        Check.due(day, x.declared(d, 14));
    }

    private static void order() {
        Check.topic("promise 47");
        PortHouse x = new QuotasTest().x;
        Check.due(0, x.order(1, 0, 400));
        Check.due(1, x.order(1000000000L, 400, 400));
        Check.due(1, x.quota(0, 0));
        Check.due(1000000000L, x.quota(1, 0));
        long[][] wrong = {{0, 0, 0}, {1000000001L, 0, 0}, {-1, 0, 0}, {5, -1, 5}, {5, 0, 401}, {5, 401, 401},
            {5, 6, 5}, {Long.MIN_VALUE, 0, 5}};
        for (long[] a : wrong) {
            Check.thrown(Check.ARGUMENT, () -> x.order(a[0], (int) a[1], (int) a[2]));
        }
        Check.due(2, x.count(19));
    }

    private static void sixteenOrders() {
        Check.topic("promise 47, sixteen");
        PortHouse x = new QuotasTest().x;
        for (int i = 0; i < 16; i++) {
            Check.due(i, x.order(10, 0, 400));
        }
        Check.thrown(Check.STATE, () -> x.order(10, 0, 400));
        Check.thrown(Check.ARGUMENT, () -> x.order(0, 0, 400));
        Check.due(true, x.block(15, 400, true));
        Check.due(0, x.run(15, 400));
        Check.due(10, x.balance(15, 400));
    }

    private static void run() {
        Check.topic("promise 48");
        QuotasTest t = new QuotasTest();
        t.x.order(100, 10, 20);
        int early = t.asks(0, 10, 0, 30);
        int late = t.asks(0, 12, 0, 40);
        t.has(early, 30, 0, NONE);
        Check.due(1, t.x.run(0, 11));
        t.has(early, 30, 30, 10);
        t.has(late, 40, 0, NONE);
        Check.due(70, t.x.balance(0, 11));
        Check.due(1, t.x.run(0, 12));
        t.has(late, 40, 40, 12);
        Check.due(0, t.x.run(0, 25));
        Check.due(30, t.x.balance(0, 25));
        Check.due(0, t.x.run(0, 400));
    }

    private static void runBounds() {
        Check.topic("promise 48, days that can't be");
        PortHouse x = new QuotasTest().x;
        x.order(100, 10, 20);
        Check.thrown(Check.INDEX, () -> x.run(1, 10));
        Check.thrown(Check.INDEX, () -> x.run(-1, 10));
        Check.thrown(Check.INDEX, () -> x.run(1, -10));
        Check.thrown(Check.ARGUMENT, () -> x.run(0, -1));
        Check.thrown(Check.ARGUMENT, () -> x.run(0, 401));
        Check.thrown(Check.ARGUMENT, () -> x.run(0, 9));
        Check.due(0, x.run(0, 10));
        Check.thrown(Check.ARGUMENT, () -> x.run(0, 10));
        Check.due(0, x.run(0, 400));
        Check.thrown(Check.ARGUMENT, () -> x.run(0, 400));
        x.order(100, 0, 20);
        Check.due(-1, x.quota(1, 1));
        Check.due(0, x.run(1, 0));
    }

    private static void runCounts() {
        Check.topic("promise 48, only asks that got something on days not run before");
        QuotasTest t = new QuotasTest();
        t.x.order(10, 0, 20);
        t.asks(0, 0, 0, 4);
        t.asks(0, 1, 0, 6);
        t.asks(0, 2, 0, 5);
        Check.due(1, t.x.run(0, 0));
        Check.due(1, t.x.run(0, 2));
        Check.due(0, t.x.balance(0, 2));
        t.asks(0, 3, 0, 5);
        Check.due(0, t.x.run(0, 3));
        Check.due(0, t.x.quota(0, 3));
    }

    private static void shares() {
        Check.topic("promise 48, shares by amounts, rounded down, the rest by desk and then as told");
        QuotasTest t = new QuotasTest();
        t.x.order(10, 0, 20);
        int a = t.asks(1, 5, 0, 7);
        int b = t.asks(0, 5, 0, 7);
        int c = t.asks(0, 5, 0, 7);
        Check.due(3, t.x.run(0, 5));
        t.has(a, 7, 3, 5);
        t.has(b, 7, 4, 5);
        t.has(c, 7, 3, 5);
        Check.due(0, t.x.balance(0, 5));
        Check.topic("promise 48, just enough is no share");
        QuotasTest u = new QuotasTest();
        u.x.order(10, 0, 20);
        int d = u.asks(1, 5, 0, 7);
        int e = u.asks(0, 5, 0, 3);
        u.x.run(0, 5);
        u.has(d, 7, 7, 5);
        u.has(e, 3, 3, 5);
    }

    private static void leftByDesk() {
        Check.topic("promise 48, what is left goes one by one");
        QuotasTest t = new QuotasTest();
        t.x.order(3, 0, 20);
        int[] desks = {3, 2, 1, 0, 3, 2, 1, 0};
        int[] want = {0, 0, 1, 1, 0, 0, 0, 1};
        int[] asked = new int[8];
        for (int i = 0; i < 8; i++) {
            asked[i] = t.asks(desks[i], 5, 0, 1);
        }
        Check.due(3, t.x.run(0, 5));
        for (int i = 0; i < 8; i++) {
            t.has(asked[i], 1, want[i], 5);
        }
        Check.topic("promise 48, great numbers");
        QuotasTest u = new QuotasTest();
        u.x.order(1999999, 0, 20);
        int a = u.asks(3, 5, 0, 1000000);
        int b = u.asks(2, 5, 0, 1000000);
        u.x.run(0, 5);
        u.has(a, 1000000, 999999, 5);
        u.has(b, 1000000, 1000000, 5);
    }

    private static void leftNotToThoseThatAreFull() {
        Check.topic("promise 48, none more than its amount; asks of 0 get nothing");
        QuotasTest t = new QuotasTest();
        t.x.order(5, 0, 20);
        int gone = t.asks(0, 5, 0, 3);
        int a = t.asks(1, 5, 0, 1);
        int b = t.asks(2, 5, 0, 5);
        t.x.cancel(gone);
        Check.due(2, t.x.run(0, 5));
        t.has(gone, 0, 0, 5);
        t.has(a, 1, 1, 5);
        t.has(b, 5, 4, 5);
        Check.topic("promise 48, a balance of 0");
        int c = t.asks(0, 6, 0, 2);
        Check.due(0, t.x.run(0, 6));
        t.has(c, 2, 0, 6);
    }

    private static void block() {
        Check.topic("promise 49");
        QuotasTest t = new QuotasTest();
        t.x.order(100, 10, 20);
        Check.due(false, t.x.block(0, 9, true));
        Check.due(false, t.x.block(0, 21, true));
        Check.due(false, t.x.block(0, -1, true));
        Check.due(false, t.x.block(0, Integer.MAX_VALUE, true));
        Check.due(false, t.x.block(0, 10, false));
        Check.due(true, t.x.block(0, 10, true));
        Check.due(false, t.x.block(0, 10, true));
        Check.due(true, t.x.block(0, 20, true));
        Check.due(2, t.x.quota(0, 2));
        Check.due(true, t.x.block(0, 20, false));
        Check.due(1, t.x.quota(0, 2));
        Check.thrown(Check.INDEX, () -> t.x.block(1, 10, true));
        Check.thrown(Check.INDEX, () -> t.x.block(-1, 10, true));
        Check.topic("promise 49, asks of blocked days wait and are treated together");
        int a = t.asks(1, 10, 0, 80);
        int b = t.asks(0, 11, 0, 80);
        Check.due(0, t.x.run(0, 10));
        t.has(a, 80, 0, NONE);
        Check.due(2, t.x.quota(0, 3));
        Check.due(2, t.x.run(0, 11));
        t.has(a, 80, 50, 11);
        t.has(b, 80, 50, 11);
    }

    private static void blockedAtTheEnd() {
        Check.topic("promise 49, behind the span none is treated");
        QuotasTest t = new QuotasTest();
        t.x.order(100, 10, 20);
        t.x.block(0, 19, true);
        t.x.block(0, 20, true);
        int a = t.asks(1, 19, 0, 80);
        Check.due(0, t.x.run(0, 400));
        t.has(a, 80, 0, NONE);
        Check.due(1, t.x.quota(0, 3));
        Check.due(100, t.x.balance(0, 400));
    }

    private static void blockChangesTheCourse() {
        Check.topic("promise 49, whenever it is told");
        QuotasTest t = new QuotasTest();
        t.x.order(100, 10, 20);
        int a = t.asks(1, 10, 0, 80);
        int b = t.asks(1, 11, 0, 80);
        Check.due(2, t.x.run(0, 12));
        t.has(a, 80, 80, 10);
        t.has(b, 80, 20, 11);
        t.x.block(0, 10, true);
        t.has(a, 80, 50, 11);
        t.has(b, 80, 50, 11);
        Check.due(100, t.x.balance(0, 10));
        Check.due(0, t.x.balance(0, 11));
        t.x.block(0, 10, false);
        t.has(a, 80, 80, 10);
        Check.due(20, t.x.balance(0, 10));
    }

    private static void transfer() {
        Check.topic("promise 50");
        PortHouse x = new QuotasTest().x;
        x.order(100, 10, 20);
        x.order(50, 0, 20);
        x.order(999999990L, 0, 20);
        Check.due(false, x.transfer(0, 0, 5));
        Check.due(false, x.transfer(0, 1, 0));
        Check.due(false, x.transfer(0, 1, -5));
        Check.due(false, x.transfer(0, 1, 100));
        Check.due(false, x.transfer(0, 1, Long.MAX_VALUE));
        Check.due(true, x.transfer(0, 1, 99));
        Check.due(1, x.quota(0, 0));
        Check.due(149, x.quota(1, 0));
        Check.due(false, x.transfer(0, 1, 1));
        Check.due(false, x.transfer(1, 2, 11));
        Check.due(true, x.transfer(1, 2, 10));
        Check.due(1000000000L, x.quota(2, 0));
        Check.thrown(Check.INDEX, () -> x.transfer(3, 0, 1));
        Check.thrown(Check.INDEX, () -> x.transfer(0, 3, 1));
        Check.thrown(Check.INDEX, () -> x.transfer(-1, 0, 1));
        Check.thrown(Check.INDEX, () -> x.transfer(3, 3, 1));
        x.run(0, 10);
        Check.due(false, x.transfer(1, 0, 1));
        Check.due(false, x.transfer(0, 1, 1));
        x.transfer(2, 1, 500);
        Check.due(639, x.quota(1, 0));
        x.run(1, 0);
        Check.due(639, x.balance(1, 0));
        Check.due(false, x.transfer(2, 1, 1));
    }

    private static void balance() {
        Check.topic("promise 51");
        QuotasTest t = new QuotasTest();
        t.x.order(100, 10, 20);
        Check.thrown(Check.ARGUMENT, () -> t.x.balance(0, 10));
        t.asks(0, 12, 0, 30);
        t.x.run(0, 15);
        Check.due(100, t.x.balance(0, 10));
        Check.due(100, t.x.balance(0, 11));
        Check.due(70, t.x.balance(0, 12));
        Check.due(70, t.x.balance(0, 15));
        Check.thrown(Check.ARGUMENT, () -> t.x.balance(0, 9));
        Check.thrown(Check.ARGUMENT, () -> t.x.balance(0, 16));
        Check.thrown(Check.ARGUMENT, () -> t.x.balance(0, -1));
        Check.thrown(Check.INDEX, () -> t.x.balance(1, 9));
        Check.thrown(Check.INDEX, () -> t.x.balance(-1, 12));
        t.x.run(0, 30);
        Check.due(70, t.x.balance(0, 30));
        Check.due(70, t.x.balance(0, 21));
        Check.thrown(Check.ARGUMENT, () -> t.x.balance(0, 31));
    }

    private static void quota() {
        Check.topic("promise 52");
        QuotasTest t = new QuotasTest();
        t.x.order(100, 10, 20);
        Check.due(9, t.x.quota(0, 1));
        t.asks(0, 12, 0, 30);
        t.asks(0, 14, 0, 30);
        Check.due(2, t.x.quota(0, 3));
        t.x.run(0, 13);
        Check.due(13, t.x.quota(0, 1));
        Check.due(1, t.x.quota(0, 3));
        t.x.run(0, 300);
        Check.due(300, t.x.quota(0, 1));
        Check.due(0, t.x.quota(0, 3));
        int[][] wrong = {{-1, 0}, {1, 0}, {0, -1}, {0, 5}};
        for (int[] a : wrong) {
            Check.thrown(Check.INDEX, () -> t.x.quota(a[0], a[1]));
        }
    }

    private static void critical() {
        Check.topic("promise 52, critical");
        QuotasTest t = new QuotasTest();
        t.x.order(100, 10, 20);
        Check.due(0, t.x.quota(0, 4));
        t.asks(0, 12, 0, 90);
        t.asks(0, 14, 0, 1);
        t.x.run(0, 12);
        Check.due(0, t.x.quota(0, 4));
        t.x.run(0, 14);
        Check.due(1, t.x.quota(0, 4));
        t.x.run(0, 400);
        Check.due(1, t.x.quota(0, 4));
        t.x.block(0, 14, true);
        Check.due(1, t.x.quota(0, 4));
        Check.due(9, t.x.balance(0, 15));
        Check.due(10, t.x.balance(0, 14));
    }

    private static void lateAsk() {
        Check.topic("promise 78, an ask of a day up to which the order was run");
        QuotasTest t = new QuotasTest();
        t.x.order(100, 10, 20);
        int late = t.asks(0, 15, 0, 100);
        t.x.run(0, 16);
        t.has(late, 100, 100, 15);
        int before = t.asks(0, 12, 0, 30);
        t.has(before, 30, 30, 12);
        t.has(late, 100, 70, 15);
        Check.due(70, t.x.balance(0, 14));
        Check.due(0, t.x.balance(0, 16));
    }

    private static void againChanges() {
        Check.topic("promise 79");
        QuotasTest t = new QuotasTest();
        t.x.order(100, 10, 20);
        int a = t.asks(0, 12, 0, 30);
        int b = t.asks(0, 15, 0, 40);
        int c = t.asks(0, 16, 0, 50);
        Check.due(0, t.x.again(a, 31));
        t.x.run(0, 16);
        t.has(c, 50, 29, 16);
        Check.due(2, t.x.again(a, 20));
        t.has(a, 20, 20, 12);
        t.has(b, 40, 40, 15);
        t.has(c, 50, 40, 16);
        Check.due(0, t.x.again(a, 20));
        Check.due(3, t.x.again(a, 1000000));
        t.has(a, 1000000, 100, 12);
        t.has(b, 40, 0, 15);
        t.has(c, 50, 0, 16);
        Check.due(3, t.x.again(a, 1));
    }

    private static void cancelledAsk() {
        Check.topic("promise 85, the ask of a cancelled one has the amount 0, and is treated as others are");
        QuotasTest t = new QuotasTest();
        t.x.order(100, 10, 20);
        int a = t.asks(0, 12, 0, 60);
        int b = t.asks(0, 15, 0, 60);
        t.x.run(0, 13);
        Check.due(1, t.x.cancel(a));
        Check.due(1, t.x.cancel(b));
        t.has(a, 0, 0, 12);
        t.has(b, 0, 0, NONE);
        Check.due(1, t.x.quota(0, 3));
        Check.due(100, t.x.balance(0, 13));
        Check.due(0, t.x.run(0, 15));
        t.has(b, 0, 0, 15);
        Check.due(0, t.x.quota(0, 3));
    }

    private static void ordersApart() {
        Check.topic("promises 48, 79, an order's course is its own");
        QuotasTest t = new QuotasTest();
        t.x.order(100, 10, 20);
        t.x.order(100, 10, 20);
        int a = t.asks(0, 12, 0, 60);
        int b = t.asks(0, 12, 1, 60);
        Check.due(1, t.x.run(1, 20));
        t.has(a, 60, 0, NONE);
        t.has(b, 60, 60, 12);
        Check.due(1, t.x.quota(0, 3));
        Check.due(0, t.x.quota(1, 3));
        Check.due(0, t.x.again(a, 5));
        t.x.block(1, 13, true);
        Check.due(0, t.x.quota(0, 2));
        Check.due(1, t.x.run(0, 20));
        Check.due(95, t.x.balance(0, 20));
        Check.due(40, t.x.balance(1, 20));
    }
}
