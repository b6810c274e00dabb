/** Promises 63 to 75: batches, entries, posting, reversals, balances, what is passed on. */
public final class LedgerTest {
    private static final int NONE = PortHouse.NONE;

    public static void main(String[] args) {
        batch();
        entry();
        failing();
        post();
        postWrong();
        postNamed();
        postFails();
        noRoom();
        reverse();
        reverseRefused();
        eightHundred();
        close();
        account();
        statement();
        share();
        cost();
        passed();
        passedRemainders();
        passedKinds();
        read();
        batchOf();
        Check.end();
    }

    private static PortHouse house() {
        return new PortHouse(1, 1, 1, 1, 1);
    }

    // A batch with cents for an account, and as many less for account 11.
    private static int begun(PortHouse x, int valid, int known, int account, long cents) {
        int b = x.batch(valid, known);
        Check.due(true, x.entry(b, account, cents));
        Check.due(true, x.entry(b, 11, -cents));
        return b;
    }

    private static int posted(PortHouse x, int valid, int known, int account, long cents) {
        int b = begun(x, valid, known, account, cents);
        Check.due(1, x.post(b));
        return b;
    }

    private static void facts(PortHouse x, int batch, int... want) {
        for (int what = 0; what < want.length; what++) {
            Check.due(want[what], x.batchOf(batch, what));
        }
    }

    private static void batch() {
        Check.topic("promise 63");
        PortHouse x = house();
        Check.due(0, x.batch(0, 100000));
        Check.due(1, x.batch(100000, 0));
        facts(x, 0, 0, 0, NONE, NONE, 0, 0, 100000);
        facts(x, 1, 0, 0, NONE, NONE, 0, 100000, 0);
        int[][] wrong = {{-1, 0}, {100001, 0}, {0, -1}, {0, 100001}};
        for (int[] a : wrong) {
            Check.thrown(Check.ARGUMENT, () -> x.batch(a[0], a[1]));
        }
        Check.due(2, x.count(28));
    }

    private static void entry() {
        Check.topic("promise 64");
        PortHouse x = house();
        Check.due(false, x.entry(0, 0, 5));
        x.batch(0, 0);
        Check.due(false, x.entry(-1, 0, 5));
        Check.due(false, x.entry(1, 0, 5));
        Check.due(false, x.entry(0, -1, 5));
        Check.due(false, x.entry(0, 12, 5));
        Check.due(false, x.entry(0, 0, 0));
        Check.due(false, x.entry(0, 0, 1000000001L));
        Check.due(false, x.entry(0, 0, -1000000001L));
        Check.due(false, x.entry(0, 0, 1L << 32 | 5));
        Check.due(true, x.entry(0, 0, 1000000000L));
        Check.due(true, x.entry(0, 11, -1000000000L));
        for (int i = 2; i < 20; i++) {
            Check.due(true, x.entry(0, i % 12, i % 2 == 0 ? 7 : -7));
        }
        Check.due(20, x.batchOf(0, 1));
        Check.due(false, x.entry(0, 0, 5));
        Check.due(20, x.batchOf(0, 1));
        Check.due(1, x.post(0));
        Check.due(false, x.entry(0, 0, 5));
        x.batch(0, 0);
        Check.thrown(Check.STATE, () -> x.post(1));
        Check.due(false, x.entry(1, 0, 5));
        Check.due(20, x.count(29));
    }

    private static void failing() {
        Check.topic("promise 65");
        PortHouse x = house();
        Check.due(false, x.failing(0, true));
        x.batch(0, 0);
        Check.due(true, x.failing(0, true));
        Check.due(true, x.failing(0, true));
        Check.due(1, x.batchOf(0, 4));
        Check.due(true, x.failing(0, false));
        Check.due(0, x.batchOf(0, 4));
        Check.due(false, x.failing(-1, true));
        Check.due(false, x.failing(1, true));
        int b = posted(x, 0, 0, 0, 5);
        Check.due(false, x.failing(b, true));
        x.failing(0, true);
        Check.thrown(Check.STATE, () -> x.post(0));
        Check.due(1, x.batchOf(0, 4));
        Check.due(false, x.failing(0, false));
        Check.due(0, x.count(34));
    }

    private static void post() {
        Check.topic("promise 66");
        PortHouse x = house();
        Check.thrown(Check.ARGUMENT, () -> x.post(0));
        Check.thrown(Check.ARGUMENT, () -> x.post(-1));
        int b = begun(x, 5, 10, 2, 500);
        Check.due(0, x.account(2, 100, 100));
        Check.due(0, x.count(29));
        Check.due(1, x.post(b));
        facts(x, b, 1, 2, NONE, NONE, 0, 5, 10);
        Check.due(2, x.count(29));
        Check.due(10, x.count(31));
        Check.due(500, x.account(2, 100, 100));
        Check.thrown(Check.ARGUMENT, () -> x.post(b));
        int same = begun(x, 900, 10, 2, 500);
        Check.due(1, x.post(same));
        int later = begun(x, 1, 11, 2, 500);
        Check.due(1, x.post(later));
        Check.due(11, x.count(31));
        Check.due(0, x.count(32));
    }

    private static void voids(PortHouse x, int batch, int wrong, int named) {
        Check.thrown(Check.STATE, () -> x.post(batch));
        Check.due(2, x.batchOf(batch, 0));
        Check.due(0, x.batchOf(batch, 1));
        Check.due(wrong, x.count(32));
        Check.due(named, x.count(33));
        Check.thrown(Check.ARGUMENT, () -> x.post(batch));
    }

    private static void postWrong() {
        Check.topic("promise 66, what was wrong, the least");
        PortHouse x = house();
        x.close(10);
        posted(x, 0, 20, 0, 5);
        voids(x, x.batch(0, 5), 1, NONE);
        int b = x.batch(0, 5);
        x.entry(b, 3, 5);
        voids(x, b, 2, 3);
        voids(x, begun(x, 0, 10, 0, 5), 3, NONE);
        voids(x, begun(x, 0, 19, 0, 5), 4, NONE);
        voids(x, begun(x, 0, 11, 0, 5), 4, NONE);
        Check.due(1, x.post(begun(x, 0, 20, 0, 5)));
        Check.due(4, x.count(32));
        Check.due(4, x.count(29));
        Check.due(20, x.count(31));
        x.close(25);
        voids(x, begun(x, 0, 25, 0, 5), 3, NONE);
        Check.due(1, x.post(begun(x, 0, 26, 0, 5)));
    }

    private static void postNamed() {
        Check.topic("promise 66, the account with the greatest sum, sign left out, the least");
        PortHouse x = house();
        int b = x.batch(0, 5);
        x.entry(b, 7, -30);
        x.entry(b, 3, 20);
        x.entry(b, 4, 30);
        x.entry(b, 3, 5);
        x.entry(b, 2, 29);
        voids(x, b, 2, 4);
        int c = x.batch(0, 5);
        x.entry(c, 7, -31);
        x.entry(c, 4, 30);
        x.entry(c, 4, -10);
        x.entry(c, 11, 30);
        voids(x, c, 2, 7);
        int d = x.batch(0, 5);
        x.entry(d, 3, 1000000000L);
        x.entry(d, 3, 1000000000L);
        x.entry(d, 3, 1000000000L);
        x.entry(d, 5, -2);
        voids(x, d, 2, 3);
        int e = x.batch(0, 5);
        x.entry(e, 0, 4);
        x.entry(e, 11, 5);
        voids(x, e, 2, 11);
    }

    private static void postFails() {
        Check.topic("promise 66, told to fail");
        PortHouse x = house();
        int b = begun(x, 0, 5, 0, 50);
        x.failing(b, true);
        Check.thrown(Check.UNSUPPORTED, () -> x.post(b));
        facts(x, b, 0, 2, NONE, NONE, 0, 0, 5);
        Check.due(0, x.count(29));
        Check.due(NONE, x.count(31));
        Check.due(1, x.count(34));
        Check.due(0, x.count(32));
        Check.due(1, x.post(b));
        Check.due(2, x.count(29));
        Check.topic("promise 66, one that can't be posted is void, not failed");
        int c = begun(x, 0, 4, 0, 50);
        x.failing(c, true);
        voids(x, c, 4, NONE);
        Check.due(1, x.batchOf(c, 4));
        Check.due(1, x.count(34));
    }

    private static void noRoom() {
        Check.topic("promise 66, 4000 entries");
        PortHouse x = house();
        for (int b = 0; b < 200; b++) {
            x.batch(0, 0);
            for (int i = 0; i < 20; i++) {
                x.entry(b, i % 12, i % 2 == 0 ? 1 : -1);
            }
            if (b < 199) {
                Check.due(1, x.post(b));
            }
        }
        int c = begun(x, 0, 0, 3, 5);
        Check.due(1, x.post(c));
        Check.due(3982, x.count(29));
        voids(x, 199, 5, NONE);
        for (int i = 0; i < 8; i++) {
            posted(x, 0, 0, 3, 5);
        }
        Check.due(3998, x.count(29));
        Check.thrown(Check.STATE, () -> x.reverse(0, 0));
        Check.due(1, x.post(begun(x, 0, 0, 3, 5)));
        Check.due(4000, x.count(29));
        voids(x, begun(x, 0, 0, 3, 5), 5, NONE);
        Check.due(4000, x.count(29));
        int batches = x.count(28);
        Check.thrown(Check.STATE, () -> x.reverse(c, 0));
        Check.due(batches, x.count(28));
        Check.due(-5, x.read(3999, 2));
    }

    private static void reverse() {
        Check.topic("promise 67");
        PortHouse x = house();
        int b = posted(x, 7, 10, 0, 50);
        Check.due(1, x.reverse(b, 12));
        facts(x, 0, 1, 2, NONE, 1, 0, 7, 10);
        facts(x, 1, 1, 2, 0, NONE, 0, 7, 12);
        Check.due(-50, x.read(2, 2));
        Check.due(0, x.read(2, 1));
        Check.due(50, x.read(3, 2));
        Check.due(11, x.read(3, 1));
        Check.due(50, x.account(0, 7, 11));
        Check.due(0, x.account(0, 7, 12));
        Check.due(12, x.count(31));
        int c = posted(x, 7, 12, 0, 1000000000L);
        Check.due(3, x.reverse(c, 12));
        Check.due(-1000000000L, x.read(6, 2));
    }

    private static void reverseRefused() {
        Check.topic("promise 67, refused");
        PortHouse x = house();
        int b = posted(x, 7, 10, 0, 50);
        int open = begun(x, 7, 10, 0, 50);
        Check.thrown(Check.ARGUMENT, () -> x.reverse(open, 10));
        Check.thrown(Check.ARGUMENT, () -> x.reverse(2, 10));
        Check.thrown(Check.ARGUMENT, () -> x.reverse(-1, 10));
        Check.thrown(Check.ARGUMENT, () -> x.reverse(b, -1));
        Check.thrown(Check.ARGUMENT, () -> x.reverse(b, 100001));
        Check.thrown(Check.STATE, () -> x.reverse(b, 9));
        x.close(11);
        Check.thrown(Check.STATE, () -> x.reverse(b, 11));
        Check.due(2, x.count(28));
        Check.due(0, x.count(32));
        Check.due(NONE, x.batchOf(b, 3));
        int r = x.reverse(b, 12);
        Check.thrown(Check.STATE, () -> x.reverse(b, 12));
        Check.thrown(Check.STATE, () -> x.reverse(r, 12));
        Check.thrown(Check.ARGUMENT, () -> x.reverse(r, -1));
        Check.thrown(Check.STATE, () -> x.post(open));
        Check.thrown(Check.ARGUMENT, () -> x.reverse(open, 12));
    }

    private static void eightHundred() {
        Check.topic("promises 63, 67, 82: 800 batches");
        PortHouse x = house();
        int b = posted(x, 7, 10, 0, 50);
        for (int i = 1; i < 800; i++) {
            Check.due(i, x.batch(0, 0));
        }
        Check.thrown(Check.STATE, () -> x.batch(0, 0));
        Check.thrown(Check.ARGUMENT, () -> x.batch(-1, 0));
        Check.thrown(Check.STATE, () -> x.reverse(b, 10));
        Check.due(true, x.entry(799, 0, 3));
        Check.due(true, x.entry(799, 1, -3));
        Check.due(800, x.count(28));
    }

    private static void close() {
        Check.topic("promise 68");
        PortHouse x = house();
        Check.due(NONE, x.count(30));
        Check.due(false, x.close(-1));
        Check.due(false, x.close(100001));
        Check.due(true, x.close(0));
        Check.due(false, x.close(0));
        Check.due(0, x.count(30));
        Check.due(true, x.close(9));
        Check.due(false, x.close(8));
        Check.due(true, x.close(100000));
        Check.due(100000, x.count(30));
    }

    private static void account() {
        Check.topic("promise 69");
        PortHouse x = house();
        posted(x, 5, 10, 0, 1);
        posted(x, 6, 11, 0, 10);
        posted(x, 5, 12, 1, 100);
        Check.due(0, x.account(0, 4, 12));
        Check.due(1, x.account(0, 5, 12));
        Check.due(11, x.account(0, 6, 11));
        Check.due(1, x.account(0, 6, 10));
        Check.due(0, x.account(0, 100000, 9));
        Check.due(11, x.account(0, 100000, 100000));
        Check.due(-111, x.account(11, 100000, 100000));
        Check.due(0, x.account(10, 100000, 100000));
        int[][] wrong = {{-1, 0, 0}, {12, 0, 0}, {0, -1, 0}, {0, 100001, 0}, {0, 0, -1}, {0, 0, 100001}};
        for (int[] a : wrong) {
            Check.thrown(Check.ARGUMENT, () -> x.account(a[0], a[1], a[2]));
        }
    }

    private static void statement() {
        Check.topic("promise 70");
        PortHouse x = house();
        posted(x, 29, 10, 0, 1);
        posted(x, 30, 10, 0, 10);
        posted(x, 59, 11, 0, 100);
        posted(x, 60, 12, 0, 1000);
        posted(x, 100000, 12, 0, 10000);
        Check.due(1, x.statement(0, 0, 10));
        Check.due(10, x.statement(0, 1, 10));
        Check.due(110, x.statement(0, 1, 11));
        Check.due(1000, x.statement(0, 2, 12));
        Check.due(10000, x.statement(0, 3333, 12));
        Check.due(-110, x.statement(11, 1, 100000));
        Check.due(0, x.statement(1, 1, 100000));
        int[][] wrong = {{-1, 0, 0}, {12, 0, 0}, {0, -1, 0}, {0, 3334, 0}, {0, 0, -1}, {0, 0, 100001},
            {0, Integer.MAX_VALUE, 0}};
        for (int[] a : wrong) {
            Check.thrown(Check.ARGUMENT, () -> x.statement(a[0], a[1], a[2]));
        }
    }

    private static void share() {
        Check.topic("promise 71");
        PortHouse x = house();
        Check.due(true, x.share(0, 0, 0));
        Check.due(true, x.share(3, 3, 1000));
        int[][] wrong = {{-1, 0, 0}, {4, 0, 0}, {0, -1, 0}, {0, 4, 0}, {0, 0, -1}, {0, 0, 1001}};
        for (int[] a : wrong) {
            Check.due(false, x.share(a[0], a[1], a[2]));
        }
        posted(x, 0, 0, 0, 100);
        x.share(0, 1, 7);
        x.share(0, 1, 0);
        x.share(0, 2, 5);
        Check.due(100, x.passed(0, 2, 0));
        Check.due(0, x.passed(0, 1, 0));
    }

    private static void cost() {
        Check.topic("promise 72");
        PortHouse x = house();
        Check.due(false, x.cost(-1, 0));
        Check.due(false, x.cost(4, 0));
        Check.due(false, x.cost(0, -1));
        Check.due(false, x.cost(0, 1001));
        Check.due(true, x.cost(0, 1000));
        Check.due(true, x.cost(3, 0));
        posted(x, 0, 0, 0, 1999);
        Check.due(1999, x.passed(0, 4, 0));
        Check.due(true, x.cost(0, 1));
        Check.due(1, x.passed(0, 4, 0));
    }

    private static void passed() {
        Check.topic("promise 73");
        PortHouse x = house();
        posted(x, 50000, 4, 0, 500);
        posted(x, 0, 5, 7, 500);
        x.cost(0, 10);
        x.share(0, 0, 1);
        x.share(0, 3, 3);
        Check.due(1000, x.passed(0, 6, 5));
        Check.due(10, x.passed(0, 4, 5));
        Check.due(248, x.passed(0, 0, 5));
        Check.due(0, x.passed(0, 1, 5));
        Check.due(742, x.passed(0, 3, 5));
        Check.due(10, x.passed(0, 5, 5));
        Check.due(500, x.passed(0, 6, 4));
        Check.due(0, x.passed(0, 6, 3));
        Check.due(0, x.passed(0, 3, 3));
        Check.topic("promise 73, all parts 0, or a sum that is not above 0");
        x.share(3, 0, 5);
        Check.due(0, x.passed(3, 6, 5));
        Check.due(0, x.passed(3, 0, 5));
        Check.due(0, x.passed(3, 5, 5));
        posted(x, 0, 6, 8, 77);
        x.cost(1, 100);
        Check.due(77, x.passed(1, 6, 6));
        Check.due(7, x.passed(1, 4, 6));
        Check.due(77, x.passed(1, 5, 6));
        Check.due(0, x.passed(1, 0, 6));
        int[][] wrong = {{-1, 0, 0}, {4, 0, 0}, {0, -1, 0}, {0, 7, 0}, {0, 0, -1}, {0, 0, 100001}};
        for (int[] a : wrong) {
            Check.thrown(Check.ARGUMENT, () -> x.passed(a[0], a[1], a[2]));
        }
    }

    private static void deals(PortHouse x, long... want) {
        for (int i = 0; i < want.length; i++) {
            Check.due(want[i], x.passed(0, i, 100000));
        }
    }

    private static void passedRemainders() {
        Check.topic("promise 73, the cents that are left by the greatest remainders, of equal ones the least");
        PortHouse x = house();
        posted(x, 0, 0, 0, 10);
        x.share(0, 0, 1);
        x.share(0, 1, 1);
        x.share(0, 2, 1);
        deals(x, 4, 3, 3, 0);
        posted(x, 0, 0, 0, 1);
        deals(x, 4, 4, 3, 0);
        x.share(0, 0, 3);
        x.share(0, 1, 4);
        x.share(0, 2, 4);
        x.share(0, 3, 2);
        deals(x, 3, 3, 3, 2);
        x.share(0, 3, 5);
        deals(x, 2, 3, 3, 3);
        Check.due(0, x.passed(0, 5, 0));
        PortHouse y = house();
        posted(y, 0, 0, 0, 1000000000L);
        y.share(0, 1, 1000);
        y.share(0, 2, 999);
        Check.due(500250125L, y.passed(0, 1, 0));
        Check.due(499749875L, y.passed(0, 2, 0));
    }

    private static void passedKinds() {
        Check.topic("promise 73, kinds of accounts");
        PortHouse x = house();
        int b = x.batch(0, 0);
        long sum = 0;
        for (int account = 0; account < 12; account++) {
            x.entry(b, account, 1L << account);
            sum += 1L << account;
        }
        x.entry(b, 10, -sum);
        Check.due(1, x.post(b));
        Check.due(255, x.passed(0, 6, 0));
        Check.due(256, x.passed(1, 6, 0));
        Check.due(512, x.passed(2, 6, 0));
        Check.due(0, x.passed(3, 6, 0));
        int c = x.batch(0, 0);
        x.entry(c, 10, 3000);
        x.entry(c, 9, -3000);
        x.post(c);
        Check.due(0, x.passed(2, 6, 0));
        Check.due(3000 + 1024 + 2048 - sum, x.passed(3, 6, 0));
    }

    private static void read() {
        Check.topic("promise 74");
        PortHouse x = house();
        Check.thrown(Check.INDEX, () -> x.read(0, 0));
        begun(x, 3, 4, 5, 6);
        posted(x, 7, 8, 9, 10);
        long[] want = {1, 11, -10, 7, 8};
        for (int what = 0; what < want.length; what++) {
            Check.due(want[what], x.read(1, what));
        }
        Check.due(9, x.read(0, 1));
        int[][] wrong = {{-1, 0}, {2, 0}, {0, -1}, {0, 5}};
        for (int[] a : wrong) {
            Check.thrown(Check.INDEX, () -> x.read(a[0], a[1]));
        }
    }

    private static void batchOf() {
        Check.topic("promise 75");
        PortHouse x = house();
        begun(x, 3, 4, 5, 6);
        facts(x, 0, 0, 2, NONE, NONE, 0, 3, 4);
        int[][] wrong = {{-1, 0}, {1, 0}, {0, -1}, {0, 7}};
        for (int[] a : wrong) {
            Check.thrown(Check.INDEX, () -> x.batchOf(a[0], a[1]));
        }
    }
}
