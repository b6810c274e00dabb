/** Promises 53 to 62: guarantees, their order, what they cover, interest, and reservations (made by assess). */
public final class SecuritiesTest {
    // A rate of 100 in 100: the duty is the price.
    private final PortHouse x = Tape.house("100%");

    private SecuritiesTest() {
        x.box(0, 0, 0, 0, 40, 5, 1);
    }

    public static void main(String[] args) {
        guarantee();
        fortyGuarantees();
        first();
        shut();
        fails();
        failsAndRefused();
        tick();
        interest();
        interestInRows();
        interestAndClosing();
        free();
        list();
        security();
        mayCover();
        single();
        orderOfCover();
        fourParts();
        claimAndRisk();
        reservation();
        reservationEnds();
        Check.end();
    }

    private int declared(int holder, int desk, long price) {
        return x.declare(x.goods(0, 1), holder, desk, 123456, 0, 0, price);
    }

    private long reserves(int holder, long cents) {
        return x.assess(declared(holder, 0, cents), 0);
    }

    private void security(int guarantee, long... want) {
        for (int what = 0; what < want.length; what++) {
            Check.due(want[what], x.security(guarantee, what));
        }
    }

    private void parts(int reservation, long... want) {
        Check.due(want.length / 2, x.reservation(reservation, 3));
        for (int i = 0; i < want.length / 2; i++) {
            Check.due(want[2 * i], x.reservation(reservation, 4 + i));
            Check.due(want[2 * i + 1], x.reservation(reservation, 8 + i));
        }
    }

    private static void guarantee() {
        Check.topic("promise 53");
        PortHouse x = new SecuritiesTest().x;
        Check.due(1, x.guarantee(0, 1, 0, 1, false, 0));
        Check.due(2, x.guarantee(7, 1000000000L, 100, 100, true, 1000));
        Check.due(2, x.count(20));
        long[][] wrong = {{-1, 1, 1, 1, 0}, {8, 1, 1, 1, 0}, {0, 0, 1, 1, 0}, {0, -1, 1, 1, 0},
            {0, 1000000001L, 1, 1, 0}, {0, 1, -1, 1, 0}, {0, 1, 2, 1, 0}, {0, 1, 0, 0, 0}, {0, 1, 101, 101, 0},
            {0, 1, 1, 101, 0}, {0, 1, 1, 1, -1}, {0, 1, 1, 1, 1001}, {0, 1, 0, -1, 0}};
        for (long[] a : wrong) {
            int up = (int) a[2];
            int down = (int) a[3];
            Check.thrown(Check.ARGUMENT, () -> x.guarantee((int) a[0], a[1], up, down, false, (int) a[4]));
        }
        Check.due(2, x.count(20));
    }

    private static void fortyGuarantees() {
        Check.topic("promise 53, forty");
        PortHouse x = new SecuritiesTest().x;
        for (int i = 1; i <= 40; i++) {
            Check.due(i, x.guarantee(7, 5, 1, 1, false, 0));
        }
        Check.thrown(Check.STATE, () -> x.guarantee(7, 5, 1, 1, false, 0));
        Check.thrown(Check.ARGUMENT, () -> x.guarantee(8, 5, 1, 1, false, 0));
        Check.due(40, x.list(7, 39));
        Check.due(-1, x.list(7, 40));
        Check.due(true, x.first(40));
        Check.due(40, x.list(7, 0));
        Check.due(39, x.list(7, 39));
        Check.due(200, x.free(7));
    }

    private static void first() {
        Check.topic("promise 54");
        PortHouse x = new SecuritiesTest().x;
        for (int i = 0; i < 4; i++) {
            x.guarantee(i == 1 ? 2 : 3, 5, 1, 1, false, 0);
        }
        Check.due(false, x.first(0));
        Check.due(false, x.first(5));
        Check.due(false, x.first(-1));
        Check.due(false, x.first(1));
        Check.due(false, x.first(2));
        Check.due(true, x.first(4));
        Check.due(false, x.first(4));
        int[] want = {4, 1, 3, -1};
        for (int i = 0; i < want.length; i++) {
            Check.due(want[i], x.list(3, i));
        }
        Check.due(true, x.first(1));
        Check.due(1, x.list(3, 0));
        Check.due(4, x.list(3, 1));
        Check.due(3, x.list(3, 2));
        Check.due(2, x.list(2, 0));
    }

    private static void shut() {
        Check.topic("promise 55");
        SecuritiesTest t = new SecuritiesTest();
        t.x.guarantee(0, 100, 1, 1, false, 0);
        Check.due(40, t.reserves(0, 40));
        Check.due(false, t.x.shut(0));
        Check.due(false, t.x.shut(2));
        Check.due(true, t.x.shut(1));
        Check.due(false, t.x.shut(1));
        t.security(1, 0, 100, 40, 60, 0, 1, 1, 0, 0);
        Check.due(-2, t.reserves(0, 1));
        Check.due(0, t.x.pay(0, 0));
        t.security(1, 0, 100, 0, 100, 0, 0, 1, 0, 0);
    }

    private static void fails() {
        Check.topic("promise 56");
        SecuritiesTest t = new SecuritiesTest();
        t.x.guarantee(0, 100, 1, 1, false, 0);
        Check.due(false, t.x.fails(-1, true));
        Check.due(false, t.x.fails(4, true));
        Check.due(false, t.x.fails(3, false));
        Check.due(true, t.x.fails(3, true));
        Check.due(false, t.x.fails(3, true));
        Check.due(true, t.x.fails(3, false));
        t.x.fails(3, true);
        int d = t.declared(0, 3, 40);
        Check.due(-1, t.x.assess(d, 0));
        Check.due(0, t.x.declared(d, 7));
        Check.due(0, t.x.declared(d, 9));
        Check.due(0, t.x.count(21));
        Check.due(0, t.x.count(22));
        Check.due(1, t.x.count(27));
        Check.due(0, t.x.count(24));
        t.security(1, 0, 100, 0, 100, 100, 0, 0, 0, 0);
        Check.due(false, t.x.fails(3, false));
        Check.due(40, t.x.assess(d, 0));
        Check.due(1, t.x.declared(d, 9));
        Check.due(1, t.x.count(27));
    }

    private static void failsAndRefused() {
        Check.topic("promise 56, only a reservation of more than 0 that is covered, of this desk, fails");
        SecuritiesTest t = new SecuritiesTest();
        t.x.guarantee(0, 100, 1, 1, false, 0);
        t.x.fails(1, true);
        Check.due(50, t.x.assess(t.declared(0, 0, 50), 0));
        Check.due(0, t.x.assess(t.declared(0, 1, 0), 0));
        Check.due(-52, t.x.assess(t.declared(0, 1, 51), 0));
        Check.due(0, t.x.count(25));
        Check.due(-1, t.x.assess(t.declared(0, 1, 50), 0));
        Check.due(1, t.x.count(25));
    }

    private static void tick() {
        Check.topic("promise 57");
        PortHouse x = new SecuritiesTest().x;
        Check.due(0, x.count(23));
        Check.due(false, x.tick(-1));
        Check.due(true, x.tick(5));
        Check.due(5, x.count(23));
        Check.due(true, x.tick(5));
        Check.due(false, x.tick(4));
        Check.due(false, x.tick(100001));
        Check.due(true, x.tick(100000));
        Check.due(false, x.tick(Integer.MAX_VALUE));
        Check.due(100000, x.count(23));
    }

    private static void interest() {
        Check.topic("promise 58");
        PortHouse x = new SecuritiesTest().x;
        x.tick(10);
        x.guarantee(0, 365000, 1, 1, false, 10);
        x.guarantee(0, 365000, 1, 1, false, 0);
        x.guarantee(0, 1000000000L, 1, 1, false, 1000);
        Check.due(0, x.interest(1));
        x.tick(11);
        Check.due(1, x.interest(1));
        Check.due(273972, x.interest(3));
        x.tick(12);
        Check.due(2, x.interest(1));
        Check.due(547945, x.interest(3));
        x.tick(100000);
        Check.due(99990, x.interest(1));
        Check.due(0, x.interest(2));
        Check.due(1000000000L * 1000 * 99990 / 3650000, x.interest(3));
        Check.thrown(Check.ARGUMENT, () -> x.interest(0));
        Check.thrown(Check.ARGUMENT, () -> x.interest(4));
    }

    private static void interestInRows() {
        Check.topic("promise 58, rounded down for each row of days with one amount");
        SecuritiesTest t = new SecuritiesTest();
        t.x.guarantee(0, 1000, 1, 1, false, 1000);
        int d = t.declared(0, 0, 400);
        int e = t.declared(0, 0, 100);
        t.x.assess(d, 0);
        t.x.assess(e, 0);
        t.x.tick(6);
        Check.due(1, t.x.interest(1));
        Check.due(400, t.x.claim(d, 0));
        Check.due(1, t.x.interest(1));
        t.x.tick(12);
        Check.due(1, t.x.interest(1));
        t.x.tick(13);
        Check.due(2, t.x.interest(1));
        t.x.claim(e, 0);
        t.x.tick(20);
        Check.due(2, t.x.interest(1));
        t.x.tick(21);
        Check.due(3, t.x.interest(1));
    }

    private static void interestAndClosing() {
        Check.topic("promise 58, up to the day on which it was closed, that day too");
        SecuritiesTest t = new SecuritiesTest();
        t.x.guarantee(0, 365000, 1, 1, false, 10);
        int d = t.declared(0, 0, 182500);
        t.x.assess(d, 0);
        t.x.tick(5);
        t.x.shut(1);
        Check.due(5, t.x.interest(1));
        t.x.tick(9);
        Check.due(5, t.x.interest(1));
        t.x.claim(d, 0);
        t.x.tick(20);
        Check.due(5, t.x.interest(1));
        Check.due(182500, t.x.security(1, 1));
    }

    private static void free() {
        Check.topic("promise 59");
        SecuritiesTest t = new SecuritiesTest();
        Check.due(-1, t.x.free(-1));
        Check.due(-1, t.x.free(8));
        Check.due(0, t.x.free(0));
        t.x.guarantee(0, 100, 1, 2, false, 0);
        t.x.guarantee(0, 100, 1, 1, true, 0);
        t.x.guarantee(1, 100, 1, 1, true, 0);
        Check.due(300, t.x.free(0));
        t.reserves(0, 250);
        Check.due(0, t.x.free(0));
        Check.due(100, t.x.free(1));
        t.x.guarantee(0, 1000000000L, 1, 3, false, 0);
        Check.due(2000000000L, t.x.free(0));
        t.x.guarantee(2, 1000000000L, 1, 1, false, 0);
        t.x.guarantee(2, 999999999L, 1, 1, false, 0);
        Check.due(1999999999L, t.x.free(2));
        t.x.guarantee(3, 1, 0, 1, false, 0);
        Check.due(1000000000L, t.x.free(3));
    }

    private static void list() {
        Check.topic("promise 60");
        PortHouse x = new SecuritiesTest().x;
        x.guarantee(0, 5, 1, 1, false, 0);
        x.guarantee(1, 5, 1, 1, false, 0);
        x.guarantee(0, 5, 1, 1, false, 0);
        Check.due(1, x.list(0, 0));
        Check.due(3, x.list(0, 1));
        Check.due(-1, x.list(0, 2));
        Check.due(-1, x.list(0, -1));
        Check.due(2, x.list(1, 0));
        Check.due(-1, x.list(2, 0));
        Check.due(-1, x.list(-1, 0));
        Check.due(-1, x.list(8, 0));
    }

    private static void security() {
        Check.topic("promise 61");
        SecuritiesTest t = new SecuritiesTest();
        t.x.guarantee(5, 1000, 2, 3, false, 0);
        t.security(1, 5, 1000, 0, 1000, 1500, 0, 0, 0, 0);
        Check.due(100, t.reserves(5, 100));
        t.security(1, 5, 1000, 67, 933, 1399, 1, 0, 0, 0);
        Check.due(100, t.reserves(5, 100));
        t.security(1, 5, 1000, 134, 866, 1299, 2, 0, 0, 0);
        int[][] wrong = {{0, 0}, {2, 0}, {-1, 0}, {1, -1}, {1, 9}};
        for (int[] a : wrong) {
            Check.thrown(Check.INDEX, () -> t.x.security(a[0], a[1]));
        }
    }

    private static void mayCover() {
        Check.topic("promise 61, the most that needs no more than is free");
        SecuritiesTest t = new SecuritiesTest();
        t.x.guarantee(0, 10, 3, 7, false, 0);
        Check.due(23, t.x.security(1, 4));
        Check.due(23, t.reserves(0, 23));
        t.security(1, 0, 10, 10, 0, 0, 1);
        t.x.guarantee(1, 10, 0, 7, false, 0);
        Check.due(1000000000L, t.x.security(2, 4));
        Check.due(100000000L, t.reserves(1, 100000000L));
        t.security(2, 1, 10, 0, 10, 1000000000L, 1);
        t.x.guarantee(2, 1000000000L, 1, 100, false, 0);
        Check.due(100000000000L, t.x.security(3, 4));
    }

    private static void single() {
        Check.topic("promise 61, a SINGLE one is for one reservation at a time");
        SecuritiesTest t = new SecuritiesTest();
        t.x.guarantee(0, 100, 1, 1, true, 0);
        Check.due(10, t.reserves(0, 10));
        t.security(1, 0, 100, 10, 90, 0, 1, 0, 0, 0);
        Check.due(-2, t.reserves(0, 10));
        t.x.pay(0, 0);
        Check.due(10, t.x.assess(1, 0));
    }

    private static void orderOfCover() {
        Check.topic("promise 62, in the holder's order, each as much as it may");
        SecuritiesTest t = new SecuritiesTest();
        t.x.guarantee(0, 100, 1, 1, false, 0);
        t.x.guarantee(1, 100, 1, 1, false, 0);
        t.x.guarantee(0, 100, 1, 2, false, 0);
        Check.due(-302, t.reserves(0, 301));
        Check.due(0, t.x.count(21));
        t.security(1, 0, 100, 0);
        Check.due(150, t.reserves(0, 150));
        t.parts(1, 1, 100, 3, 50);
        Check.due(100, t.reserves(0, 100));
        t.parts(2, 3, 100);
        t.x.first(3);
        Check.due(50, t.reserves(0, 50));
        t.parts(3, 3, 50);
        Check.due(0, t.x.free(0));
        Check.due(-2, t.reserves(0, 1));
        Check.due(3, t.x.count(21));
        Check.due(3, t.x.count(22));
    }

    private static void fourParts() {
        Check.topic("promise 62, four parts at most");
        SecuritiesTest t = new SecuritiesTest();
        for (int i = 0; i < 6; i++) {
            t.x.guarantee(0, 10, 1, 1, false, 0);
        }
        t.x.shut(2);
        Check.due(-52, t.reserves(0, 41));
        Check.due(0, t.x.count(21));
        Check.due(40, t.reserves(0, 40));
        t.parts(1, 1, 10, 3, 10, 4, 10, 5, 10);
        Check.due(10, t.x.free(0));
        t.x.fails(0, true);
        Check.due(-12, t.reserves(0, 41));
        Check.due(0, t.x.count(24));
    }

    private static void claimAndRisk() {
        Check.topic("promise 61, behind a claim: FREE, RISK, CLAIMED");
        SecuritiesTest t = new SecuritiesTest();
        t.x.guarantee(0, 100, 1, 2, false, 0);
        int a = t.declared(0, 0, 80);
        int b = t.declared(0, 0, 60);
        int c = t.declared(0, 0, 50);
        t.x.assess(a, 0);
        t.x.assess(b, 0);
        t.x.assess(c, 0);
        t.security(1, 0, 100, 95, 5, 10, 3, 0, 0, 0);
        Check.due(80, t.x.claim(a, 0));
        t.security(1, 0, 20, 55, 0, 0, 2, 0, 35, 80);
        Check.due(20, t.x.claim(b, 0));
        t.security(1, 0, 0, 25, 0, 0, 1, 0, 25, 100);
        Check.due(0, t.x.claim(c, 0));
        t.security(1, 0, 0, 0, 0, 0, 0, 0, 0, 100);
    }

    private static void reservation() {
        Check.topic("promise 62");
        SecuritiesTest t = new SecuritiesTest();
        t.x.guarantee(6, 10, 1, 1, false, 0);
        t.x.guarantee(6, 10, 1, 1, false, 0);
        Check.thrown(Check.INDEX, () -> t.x.reservation(1, 0));
        Check.due(15, t.reserves(6, 15));
        Check.due(6, t.x.reservation(1, 0));
        Check.due(15, t.x.reservation(1, 1));
        Check.due(0, t.x.reservation(1, 2));
        t.parts(1, 1, 10, 2, 5);
        int[][] wrong = {{0, 0}, {2, 0}, {-1, 0}, {1, -1}, {1, 6}, {1, 7}, {1, 10}, {1, 11}, {1, 12}, {1, 99}};
        for (int[] a : wrong) {
            Check.thrown(Check.INDEX, () -> t.x.reservation(a[0], a[1]));
        }
    }

    private static void reservationEnds() {
        Check.topic("promise 62, how it ended");
        SecuritiesTest t = new SecuritiesTest();
        t.x.guarantee(6, 100, 1, 1, false, 0);
        for (int i = 0; i < 3; i++) {
            t.reserves(6, 10 + i);
        }
        t.x.cancel(0);
        t.x.pay(1, 0);
        Check.due(1, t.x.count(22));
        t.x.claim(2, 0);
        for (int r = 1; r <= 3; r++) {
            Check.due(6, t.x.reservation(r, 0));
            Check.due(0, t.x.reservation(r, 1));
            Check.due(r, t.x.reservation(r, 2));
            Check.due(0, t.x.reservation(r, 3));
            int ended = r;
            Check.thrown(Check.INDEX, () -> t.x.reservation(ended, 4));
            Check.thrown(Check.INDEX, () -> t.x.reservation(ended, 8));
        }
        Check.due(0, t.x.count(22));
        Check.due(3, t.x.count(21));
        t.security(1, 6, 88, 0, 88, 88, 0, 0, 0, 12);
    }
}
