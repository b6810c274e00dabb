/** Promises 2 to 9: boxes, needs, plans, work, bound, swaps. */
public final class BaysTest {
    private static final int ASHORE = 3;

    public static void main(String[] args) {
        boxNumbers();
        boxBounds();
        boxRoom();
        hundredBoxes();
        needs();
        needsAndRings();
        planOrder();
        planWithNeeds();
        planInFullStacks();
        planIsVoid();
        planAnew();
        moves();
        work();
        workWithoutRow();
        bound();
        swaps();
        swapRefused();
        aboard();
        Check.end();
    }

    private static int plain(PortHouse x, int bay, int stack, int port) {
        return x.box(bay, stack, port, 0, 10, 5, 1);
    }

    private static String told(PortHouse x, int bay) {
        StringBuilder s = new StringBuilder();
        for (int i = 0, n = x.plan(bay); i < n; i++) {
            s.append(i > 0 ? " " : "").append(x.move(bay, i, 0)).append(':').append(x.move(bay, i, 1)).append('>')
                    .append(x.move(bay, i, 2));
        }
        return s.toString();
    }

    private static void workAll(PortHouse x, int bay) {
        for (int left = x.plan(bay); left > 0; left--) {
            x.work(bay);
        }
    }

    private static void boxNumbers() {
        Check.topic("promise 2, numbers and places");
        PortHouse x = new PortHouse(2, 3, 4, 3, 60);
        Check.due(0, x.box(1, 2, 5, 8, 40, 1000, 9));
        Check.due(1, x.box(1, 2, 0, 3, 1, 0, 1));
        Check.due(2, x.box(0, 2, 0, 2, 1, 0, 1));
        Check.due(2, x.where(0, 8));
        Check.due(3, x.where(0, 4));
        Check.due(40, x.where(0, 5));
        Check.due(1000, x.where(0, 6));
        Check.due(9, x.where(0, 7));
        Check.due(1, x.where(1, 8));
        Check.due(1, x.where(1, 4));
        Check.due(0, x.where(2, 8));
        Check.due(3, x.where(2, 4));
        Check.due(0, x.aboard(0, 3));
        Check.due(1, x.aboard(1, 3));
        Check.due(0, x.aboard(2, 3));
    }

    private static void boxBounds() {
        Check.topic("promise 2, what can't be");
        PortHouse x = new PortHouse(2, 3, 4, 3, 60);
        int[][] wrong = {
            {-1, 0, 0, 0, 1, 0, 1}, {2, 0, 0, 0, 1, 0, 1}, {0, -1, 0, 0, 1, 0, 1}, {0, 3, 0, 0, 1, 0, 1},
            {0, 0, -1, 0, 1, 0, 1}, {0, 0, 6, 0, 1, 0, 1}, {0, 0, 0, -1, 1, 0, 1}, {0, 0, 0, 9, 1, 0, 1},
            {0, 0, 0, 0, 0, 0, 1}, {0, 0, 0, 0, 41, 0, 1}, {0, 0, 0, 0, 1, -1, 1}, {0, 0, 0, 0, 1, 1001, 1},
            {0, 0, 0, 0, 1, 0, 0}, {0, 0, 0, 0, 1, 0, 10}, {Integer.MAX_VALUE, 0, 0, 0, 1, 0, 1},
            {0, Integer.MIN_VALUE, 0, 0, 1, 0, 1},
        };
        for (int[] a : wrong) {
            Check.thrown(Check.ARGUMENT, () -> x.box(a[0], a[1], a[2], a[3], a[4], a[5], a[6]));
        }
        Check.due(0, x.count(0));
    }

    private static void boxRoom() {
        Check.topic("promise 2, four in a bay and tiers of a stack");
        PortHouse x = new PortHouse(2, 2, 4, 3, 60);
        plain(x, 0, 0, 0);
        plain(x, 0, 0, 1);
        Check.thrown(Check.STATE, () -> plain(x, 0, 0, 0));
        plain(x, 0, 1, 1);
        plain(x, 0, 2, 1);
        Check.thrown(Check.STATE, () -> plain(x, 0, 1, 0));
        Check.topic("promise 2, of several exceptions the one told first");
        Check.thrown(Check.ARGUMENT, () -> x.box(0, 1, 0, 0, 0, 0, 1));
        Check.due(4, plain(x, 1, 0, 0));
        Check.topic("promise 2, one that is ASHORE makes room");
        workAll(x, 0);
        Check.due(1, x.count(1));
        Check.due(5, plain(x, 0, 0, 0));
        Check.thrown(Check.STATE, () -> plain(x, 0, 0, 0));
    }

    private static void hundredBoxes() {
        Check.topic("promise 2, a hundred boxes");
        PortHouse x = new PortHouse(1, 4, 20, 8, 400);
        for (int b = 0; b < 100; b++) {
            Check.due(b, x.box(0, 0, 0, 0, 1, 0, 1));
            x.plan(0);
            Check.due(0, x.work(0));
        }
        Check.thrown(Check.STATE, () -> plain(x, 0, 0, 0));
        Check.thrown(Check.ARGUMENT, () -> plain(x, 0, 0, 6));
        Check.due(100, x.count(0));
        Check.due(100, x.count(1));
        Check.due(100, x.count(3));
    }

    private static void needs() {
        Check.topic("promise 3, who may need");
        PortHouse x = new PortHouse(2, 3, 4, 3, 60);
        plain(x, 0, 0, 0);
        plain(x, 0, 1, 0);
        plain(x, 0, 2, 1);
        plain(x, 1, 0, 0);
        Check.due(false, x.before(-1, 0));
        Check.due(false, x.before(0, -1));
        Check.due(false, x.before(0, 4));
        Check.due(false, x.before(4, 0));
        Check.due(false, x.before(0, 2));
        Check.due(false, x.before(2, 0));
        Check.due(false, x.before(0, 3));
        Check.due(false, x.before(0, 0));
        Check.due(true, x.before(1, 0));
        Check.due(false, x.before(1, 0));
        Check.due(false, x.before(0, 1));
        workAll(x, 0);
        plain(x, 0, 0, 0);
        Check.topic("promise 3, one is ASHORE");
        Check.due(false, x.before(0, 4));
        Check.due(false, x.before(4, 0));
    }

    private static void needsAndRings() {
        Check.topic("promise 3, rings");
        PortHouse x = new PortHouse(1, 4, 4, 4, 60);
        for (int b = 0; b < 4; b++) {
            plain(x, 0, b % 3, 0);
        }
        Check.due(true, x.before(3, 2));
        Check.due(true, x.before(2, 1));
        Check.due(true, x.before(1, 0));
        Check.due(false, x.before(0, 3));
        Check.due(false, x.before(0, 2));
        Check.due(false, x.before(1, 3));
        Check.due(true, x.before(3, 0));
        Check.due(true, x.before(3, 1));
        Check.due(false, x.before(3, 1));
        PortHouse y = new PortHouse(1, 4, 4, 4, 60);
        for (int b = 0; b < 4; b++) {
            plain(y, 0, b % 3, 0);
        }
        Check.due(true, y.before(0, 1));
        Check.due(false, y.before(1, 0));
        Check.due(true, y.before(1, 2));
        Check.due(true, y.before(2, 3));
        Check.due(false, y.before(3, 0));
        Check.due(false, y.before(2, 0));
        Check.due(true, y.before(0, 3));
    }

    private static void planOrder() {
        Check.topic("promise 4, the first of the shortest");
        PortHouse x = new PortHouse(2, 3, 4, 3, 60);
        plain(x, 0, 2, 0);
        plain(x, 0, 1, 0);
        plain(x, 0, 0, 0);
        Check.due("2:0>3 1:1>3 0:2>3", told(x, 0));
        Check.due("", told(x, 1));
        Check.due(0, x.plan(1));
        PortHouse y = new PortHouse(1, 3, 4, 3, 60);
        plain(y, 0, 0, 0);
        plain(y, 0, 0, 1);
        Check.due("1:0>1 0:0>3", told(y, 0));
        PortHouse z = new PortHouse(1, 3, 4, 3, 60);
        plain(z, 0, 1, 0);
        plain(z, 0, 1, 1);
        Check.due("1:1>0 0:1>3", told(z, 0));
        Check.thrown(Check.ARGUMENT, () -> z.plan(-1));
        Check.thrown(Check.ARGUMENT, () -> z.plan(1));
    }

    private static void planWithNeeds() {
        Check.topic("promise 4, needs");
        PortHouse x = new PortHouse(1, 3, 4, 3, 60);
        plain(x, 0, 0, 0);
        plain(x, 0, 1, 0);
        x.before(1, 0);
        Check.due("1:1>3 0:0>3", told(x, 0));
        PortHouse y = new PortHouse(1, 2, 4, 3, 60);
        plain(y, 0, 0, 0);
        plain(y, 0, 0, 0);
        y.before(0, 1);
        Check.due("1:0>1 0:0>3 1:1>3", told(y, 0));
    }

    private static void planInFullStacks() {
        Check.topic("promise 4, stacks that are nearly full");
        PortHouse x = new PortHouse(1, 2, 4, 3, 60);
        plain(x, 0, 0, 0);
        plain(x, 0, 0, 0);
        plain(x, 0, 1, 1);
        plain(x, 0, 2, 1);
        x.before(0, 1);
        Check.due("1:0>1 0:0>3 1:1>3", told(x, 0));
        PortHouse y = new PortHouse(1, 1, 4, 3, 60);
        plain(y, 0, 0, 0);
        plain(y, 0, 1, 1);
        plain(y, 0, 2, 1);
        Check.due("0:0>3", told(y, 0));
        Check.topic("promise 4, two stacks are full and what is below leaves");
        PortHouse z = new PortHouse(1, 2, 4, 3, 60);
        plain(z, 0, 0, 0);
        plain(z, 0, 0, 2);
        plain(z, 0, 1, 0);
        plain(z, 0, 1, 3);
        Check.due("1:0>2 0:0>3 3:1>0 2:1>3", told(z, 0));
        planOfChains();
    }

    private static void planOfChains() {
        Check.topic("promise 4, needs against the order of the stack");
        PortHouse x = new PortHouse(1, 4, 4, 4, 60);
        plain(x, 0, 0, 0);
        plain(x, 0, 0, 0);
        plain(x, 0, 0, 0);
        plain(x, 0, 0, 0);
        x.before(0, 1);
        x.before(1, 2);
        x.before(2, 3);
        Check.due("3:0>1 2:0>1 1:0>1 0:0>3 1:1>3 2:1>3 3:1>3", told(x, 0));
        Check.topic("promise 4, the longest plan that needs make");
        PortHouse z = new PortHouse(1, 4, 4, 4, 60);
        for (int b = 0; b < 4; b++) {
            plain(z, 0, 1, 0);
        }
        z.before(2, 1);
        z.before(3, 2);
        z.before(0, 3);
        Check.due(8, z.plan(0));
        PortHouse y = new PortHouse(1, 1, 4, 4, 60);
        plain(y, 0, 0, 0);
        plain(y, 0, 1, 0);
        plain(y, 0, 2, 0);
        y.before(2, 0);
        y.before(2, 1);
        y.before(1, 0);
        Check.due("2:2>3 1:1>3 0:0>3", told(y, 0));
    }

    private static void planIsVoid() {
        Check.topic("promise 4, the plan is void by a box, a need, a swap of that bay alone");
        PortHouse x = new PortHouse(3, 3, 4, 3, 60);
        plain(x, 0, 0, 0);
        plain(x, 0, 1, 0);
        plain(x, 1, 0, 0);
        plain(x, 2, 0, 0);
        Check.due(-1, x.count(100));
        x.plan(0);
        x.plan(1);
        x.plan(2);
        plain(x, 2, 0, 0);
        Check.due(-1, x.count(102));
        Check.due(2, x.count(100));
        x.before(0, 1);
        Check.due(-1, x.count(100));
        Check.due(1, x.count(101));
        Check.thrown(Check.STATE, () -> x.work(0));
        Check.thrown(Check.INDEX, () -> x.move(0, 0, 0));
        x.plan(2);
        Check.due(1, x.swap(2, 3));
        Check.due(-1, x.count(101));
        Check.due(-1, x.count(102));
        x.plan(0);
        Check.due(false, x.before(0, 1));
        Check.due(0, x.swap(0, 2));
        Check.due(2, x.count(100));
    }

    private static void planAnew() {
        Check.topic("promise 4, anew when worked in part");
        PortHouse x = new PortHouse(1, 3, 4, 3, 60);
        plain(x, 0, 0, 0);
        plain(x, 0, 0, 1);
        Check.due(2, x.plan(0));
        Check.due(1, x.work(0));
        Check.due(1, x.plan(0));
        Check.due(0, x.move(0, 0, 0));
        Check.due(0, x.move(0, 0, 3));
        Check.due(0, x.work(0));
        Check.due(0, x.plan(0));
        Check.due(0, x.count(100));
        Check.thrown(Check.STATE, () -> x.work(0));
        Check.due(1, x.aboard(1, 2));
    }

    private static void moves() {
        Check.topic("promise 5");
        PortHouse x = new PortHouse(2, 3, 4, 3, 60);
        plain(x, 0, 1, 0);
        plain(x, 0, 1, 2);
        Check.thrown(Check.INDEX, () -> x.move(0, 0, 0));
        x.plan(0);
        Check.due(1, x.move(0, 0, 0));
        Check.due(1, x.move(0, 0, 1));
        Check.due(0, x.move(0, 0, 2));
        Check.due(0, x.move(0, 0, 3));
        Check.due(0, x.move(0, 1, 0));
        Check.due(1, x.move(0, 1, 1));
        Check.due(ASHORE, x.move(0, 1, 2));
        x.work(0);
        Check.due(1, x.move(0, 0, 3));
        Check.due(0, x.move(0, 1, 3));
        Check.due(1, x.move(0, 0, 0));
        int[][] wrong = {{-1, 0, 0}, {2, 0, 0}, {1, 0, 0}, {0, -1, 0}, {0, 2, 0}, {0, 0, -1}, {0, 0, 4}};
        for (int[] a : wrong) {
            Check.thrown(Check.INDEX, () -> x.move(a[0], a[1], a[2]));
        }
    }

    private static void work() {
        Check.topic("promise 6");
        PortHouse x = new PortHouse(1, 3, 4, 3, 60);
        plain(x, 0, 0, 0);
        plain(x, 0, 0, 1);
        Check.thrown(Check.ARGUMENT, () -> x.work(-1));
        Check.thrown(Check.ARGUMENT, () -> x.work(1));
        Check.thrown(Check.STATE, () -> x.work(0));
        x.plan(0);
        Check.due(1, x.work(0));
        Check.due(1, x.aboard(1, 2));
        Check.due(0, x.aboard(1, 3));
        Check.due(0, x.count(5));
        Check.due(0, x.work(0));
        Check.due(ASHORE, x.aboard(0, 2));
        Check.due(-1, x.aboard(0, 3));
        Check.due(0, x.where(0, 0));
        Check.due(1, x.count(5));
        Check.due(2, x.count(3));
        Check.thrown(Check.STATE, () -> x.work(0));
    }

    private static void workWithoutRow() {
        Check.topic("promise 6, no row");
        PortHouse x = new PortHouse(1, 3, 1, 3, 60);
        x.box(0, 0, 0, 3, 10, 5, 1);
        x.plan(0);
        Check.due(-1, x.work(0));
        Check.due(0, x.aboard(0, 2));
        Check.due(0, x.move(0, 0, 3));
        Check.due(1, x.count(100));
        Check.due(0, x.count(3));
        Check.due(0, x.count(5));
        Check.due(true, x.ground(0, 1));
        Check.due(0, x.work(0));
        Check.due(0, x.where(0, 0));
    }

    private static void bound() {
        Check.topic("promise 7");
        PortHouse x = new PortHouse(2, 4, 4, 3, 60);
        Check.due(0, x.least(0));
        plain(x, 0, 0, 1);
        Check.due(0, x.least(0));
        plain(x, 0, 0, 0);
        Check.due(1, x.least(0));
        plain(x, 0, 0, 2);
        Check.due(2, x.least(0));
        plain(x, 0, 1, 2);
        Check.due(2, x.least(0));
        Check.due(0, x.least(1));
        x.plan(0);
        x.work(0);
        Check.due(1, x.least(0));
        x.work(0);
        Check.due(0, x.least(0));
        Check.thrown(Check.ARGUMENT, () -> x.least(-1));
        Check.thrown(Check.ARGUMENT, () -> x.least(2));
    }

    private static void swaps() {
        Check.topic("promise 8");
        PortHouse x = new PortHouse(2, 3, 4, 3, 60);
        plain(x, 0, 0, 2);
        plain(x, 0, 0, 0);
        plain(x, 1, 2, 1);
        plain(x, 1, 2, 0);
        Check.due(1, x.swap(1, 3));
        Check.due(1, x.aboard(1, 1));
        Check.due(2, x.aboard(1, 2));
        Check.due(1, x.aboard(1, 3));
        Check.due(0, x.aboard(3, 1));
        Check.due(0, x.aboard(3, 2));
        Check.due(1, x.aboard(3, 3));
        Check.due("3:0>3", told(x, 0));
        Check.due("1:2>3", told(x, 1));
        Check.topic("promise 8, in one bay, of different tiers");
        PortHouse y = new PortHouse(1, 3, 4, 3, 60);
        plain(y, 0, 0, 2);
        plain(y, 0, 1, 1);
        plain(y, 0, 1, 2);
        Check.due(1, y.swap(0, 2));
        Check.due(1, y.aboard(0, 2));
        Check.due(1, y.aboard(0, 3));
        Check.due(0, y.aboard(2, 2));
        Check.due(0, y.aboard(2, 3));
    }

    private static void swapRefused() {
        Check.topic("promise 8, refused");
        PortHouse x = new PortHouse(2, 3, 4, 3, 60);
        plain(x, 0, 0, 0);
        plain(x, 0, 1, 0);
        plain(x, 0, 2, 1);
        plain(x, 0, 0, 0);
        plain(x, 1, 0, 0);
        Check.due(0, x.swap(0, 0));
        Check.due(0, x.swap(0, 2));
        x.before(1, 0);
        Check.due(0, x.swap(0, 4));
        Check.due(0, x.swap(1, 4));
        Check.due(0, x.swap(4, 1));
        Check.due(1, x.swap(3, 4));
        Check.thrown(Check.ARGUMENT, () -> x.swap(-1, 0));
        Check.thrown(Check.ARGUMENT, () -> x.swap(0, 5));
        Check.thrown(Check.ARGUMENT, () -> x.swap(5, 5));
        Check.topic("promise 8, needs that are through, and boxes ASHORE");
        PortHouse y = new PortHouse(1, 3, 4, 3, 60);
        plain(y, 0, 0, 0);
        plain(y, 0, 1, 0);
        y.before(0, 1);
        y.plan(0);
        y.work(0);
        plain(y, 0, 0, 0);
        Check.due(0, y.swap(1, 2));
        Check.due(0, y.swap(0, 2));
        plain(y, 0, 0, 0);
        Check.due(1, y.swap(2, 3));
    }

    private static void aboard() {
        Check.topic("promise 9");
        PortHouse x = new PortHouse(3, 3, 4, 3, 60);
        x.box(2, 1, 4, 0, 10, 5, 1);
        x.box(2, 1, 0, 0, 10, 5, 1);
        Check.due(4, x.aboard(0, 0));
        Check.due(2, x.aboard(0, 1));
        Check.due(1, x.aboard(0, 2));
        Check.due(0, x.aboard(0, 3));
        Check.due(1, x.aboard(1, 3));
        workAll(x, 2);
        Check.due(2, x.aboard(1, 1));
        Check.due(ASHORE, x.aboard(1, 2));
        Check.due(-1, x.aboard(1, 3));
        int[][] wrong = {{-1, 0}, {2, 0}, {0, -1}, {0, 4}};
        for (int[] a : wrong) {
            Check.thrown(Check.INDEX, () -> x.aboard(a[0], a[1]));
        }
    }
}
