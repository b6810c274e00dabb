/** Promises 10 to 19: the yard's rows, rules, score, nights, and moves that are undone. */
public final class YardTest {
    public static void main(String[] args) {
        ground();
        reserve();
        put();
        rulesOfRows();
        rulesOfGrounds();
        ruleOrder();
        take();
        shift();
        score();
        scoreTies();
        chooseNone();
        night();
        nightOrder();
        nightNeedsClearRow();
        nightEnds();
        undo();
        undoWhatever();
        undoKeepsHundred();
        undoNotBehind();
        where();
        at();
        Check.end();
    }

    private static void ground() {
        Check.topic("promise 10");
        PortHouse x = new PortHouse(1, 4, 3, 3, 60);
        Check.due(0, x.count(400));
        Check.due(true, x.ground(0, 2));
        Check.due(2, x.count(400));
        Check.due(0, x.count(401));
        Check.due(true, x.ground(0, 2));
        Check.due(false, x.ground(-1, 0));
        Check.due(false, x.ground(3, 0));
        Check.due(false, x.ground(0, -1));
        Check.due(false, x.ground(0, 3));
        Check.due(true, x.ground(0, 0));
        int box = Quay.standing(x, 0, 5, 5, 1);
        Check.due(0, x.where(box, 0));
        Check.due(false, x.ground(0, 1));
        Check.due(0, x.count(400));
        x.take(box);
        Check.due(true, x.ground(0, 1));
        Check.due(1, x.count(400));
    }

    private static void reserve() {
        Check.topic("promise 11");
        PortHouse x = new PortHouse(1, 4, 3, 3, 60);
        Check.due(true, x.reserve(1, 9));
        Check.due(9, x.count(501));
        Check.due(0, x.count(500));
        Check.due(true, x.reserve(1, 0));
        Check.due(0, x.count(501));
        Check.due(false, x.reserve(-1, 1));
        Check.due(false, x.reserve(3, 1));
        Check.due(false, x.reserve(0, -1));
        Check.due(false, x.reserve(0, 10));
        Quay.on(x, 0, 9, 5, 4);
        Check.due(true, x.reserve(0, 4));
        Check.due(false, x.reserve(0, 5));
        Check.due(4, x.count(500));
        Check.due(true, x.reserve(0, 0));
        Quay.on(x, 0, 8, 5, 5);
        Check.due(false, x.reserve(0, 4));
        Check.due(false, x.reserve(0, 5));
        Check.due(true, x.reserve(0, 0));
    }

    private static void put() {
        Check.topic("promise 12");
        PortHouse x = new PortHouse(1, 4, 3, 3, 60);
        int box = Quay.loose(x, 0, 10, 5, 1);
        Check.due(1, x.put(box, 2));
        Check.due(2, x.where(box, 0));
        Check.due(0, x.where(box, 1));
        Check.due(-1, x.put(box, 1));
        Check.due(-1, x.put(box, 2));
        int aboard = x.box(0, 0, 0, 0, 10, 5, 1);
        Check.due(-9, x.put(aboard, 0));
        int[][] wrong = {{-1, 0}, {2, 0}, {0, -1}, {0, 3}};
        for (int[] a : wrong) {
            Check.thrown(Check.INDEX, () -> x.put(a[0], a[1]));
        }
        Check.due(3, x.count(5));
    }

    private static void rulesOfRows() {
        Check.topic("promise 12, rules 2 to 6");
        PortHouse x = new PortHouse(1, 4, 3, 2, 30);
        int box = Quay.loose(x, 0, 10, 5, 1);
        x.reserve(0, 2);
        Check.due(-2, x.put(box, 0));
        x.reserve(0, 1);
        Check.due(1, x.put(box, 0));
        int second = Quay.loose(x, 0, 10, 5, 1);
        Check.due(1, x.put(second, 0));
        int third = Quay.loose(x, 0, 1, 5, 1);
        Check.due(-3, x.put(third, 0));
        Quay.on(x, 1, 16, 5, 1);
        int heavy = Quay.loose(x, 0, 15, 5, 1);
        Check.due(-4, x.put(heavy, 1));
        int right = Quay.loose(x, 0, 14, 5, 1);
        Check.due(1, x.put(right, 1));
        Check.due(30, x.count(301));
        Quay.on(x, 2, 10, 5, 1);
        int large = x.box(0, 0, 0, 1, 10, 5, 1);
        x.plan(0);
        Check.due(-1, x.work(0));
        x.take(right);
        x.take(third);
        Check.due(-5, wouldBreak(x, large, 2));
        int heavier = Quay.loose(x, 0, 11, 5, 1);
        Check.due(-6, x.put(heavier, 2));
    }

    // Takes all boxes of a row of one away, lands the box there, and puts all back.
    private static int wouldBreak(PortHouse x, int box, int row) {
        int other = x.at(row, 0);
        x.take(other);
        Check.due(0, x.work(0));
        x.take(box);
        Check.due(1, x.put(other, row));
        return x.put(box, row);
    }

    private static void rulesOfGrounds() {
        Check.topic("promise 12, rules 7 and 8");
        PortHouse x = new PortHouse(1, 4, 3, 3, 60);
        x.ground(1, 1);
        x.ground(2, 2);
        int plain = Quay.loose(x, 0, 10, 5, 1);
        int cooled = Quay.loose(x, 3, 10, 5, 1);
        int dangerous = Quay.loose(x, 6, 10, 5, 1);
        Check.due(-7, x.put(cooled, 0));
        Check.due(-7, x.put(cooled, 2));
        Check.due(1, x.put(cooled, 1));
        Check.due(-8, x.put(dangerous, 0));
        Check.due(-8, x.put(dangerous, 1));
        Check.due(1, x.put(dangerous, 2));
        x.take(dangerous);
        Check.due(-8, x.put(plain, 2));
        Check.due(1, x.put(plain, 1));
        x.take(plain);
        Check.due(1, x.put(plain, 0));
    }

    private static void ruleOrder() {
        Check.topic("promise 12, the first rule that is broken");
        PortHouse x = new PortHouse(1, 4, 4, 1, 20);
        x.ground(3, 2);
        x.ground(2, 1);
        int low = Quay.on(x, 0, 10, 5, 1);
        int cooled = Quay.loose(x, 4, 12, 5, 2);
        x.reserve(0, 1);
        Check.due(-2, x.put(cooled, 0));
        x.reserve(0, 0);
        Check.due(-3, x.put(cooled, 0));
        int aboard = x.box(0, 0, 0, 4, 12, 5, 2);
        x.reserve(0, 1);
        Check.due(-9, x.put(aboard, 0));
        Check.due(-1, x.put(low, 0));
        PortHouse y = new PortHouse(1, 4, 4, 3, 20);
        y.ground(2, 1);
        Quay.on(y, 0, 10, 5, 1);
        int big = Quay.loose(y, 4, 12, 5, 2);
        Check.due(-4, y.put(big, 0));
        PortHouse z = new PortHouse(1, 4, 4, 3, 60);
        z.ground(2, 1);
        Quay.on(z, 0, 10, 5, 1);
        int other = Quay.loose(z, 4, 12, 5, 2);
        Check.due(-5, z.put(other, 0));
        int same = Quay.loose(z, 3, 12, 5, 2);
        Check.due(-6, z.put(same, 0));
        int light = Quay.loose(z, 3, 9, 5, 2);
        Check.due(-7, z.put(light, 0));
    }

    private static void take() {
        Check.topic("promise 13");
        PortHouse x = new PortHouse(1, 4, 2, 3, 60);
        int low = Quay.on(x, 0, 10, 5, 1);
        int top = Quay.on(x, 0, 9, 5, 1);
        Check.due(0, x.take(low));
        Check.due(1, x.take(top));
        Check.due(-1, x.where(top, 0));
        Check.due(-1, x.where(top, 1));
        Check.due(0, x.take(top));
        Check.due(1, x.take(low));
        Check.due(0, x.count(4));
        int aboard = x.box(0, 0, 0, 0, 10, 5, 1);
        Check.due(0, x.take(aboard));
        Check.thrown(Check.INDEX, () -> x.take(-1));
        Check.thrown(Check.INDEX, () -> x.take(3));
    }

    private static void shift() {
        Check.topic("promise 14");
        PortHouse x = new PortHouse(1, 4, 3, 3, 60);
        int low = Quay.on(x, 0, 10, 5, 1);
        int top = Quay.on(x, 0, 9, 5, 1);
        Check.due(0, x.shift(low, 1));
        Check.due(-1, x.shift(top, 0));
        Check.due(1, x.shift(top, 1));
        Check.due(1, x.where(top, 0));
        Check.due(0, x.where(top, 1));
        Check.due(1, x.count(200));
        Check.due(-6, x.shift(low, 1));
        x.reserve(2, 7);
        Check.due(-2, x.shift(low, 2));
        x.take(top);
        Check.due(0, x.shift(top, 2));
        int made = x.count(5);
        Check.due(1, x.shift(low, 1));
        Check.due(made + 1, x.count(5));
        int[][] wrong = {{-1, 0}, {2, 0}, {0, -1}, {0, 3}};
        for (int[] a : wrong) {
            Check.thrown(Check.INDEX, () -> x.shift(a[0], a[1]));
        }
    }

    private static void score() {
        Check.topic("promise 15, an empty row 20 against 40 less 15 for a box that leaves sooner");
        PortHouse x = new PortHouse(1, 4, 3, 4, 100);
        Quay.on(x, 1, 20, 5, 1);
        int box = Quay.loose(x, 0, 20, 5, 2);
        Check.due(1, x.choose(box));
        int later = Quay.loose(x, 0, 20, 6, 2);
        Check.due(1, x.choose(later));
        Quay.on(x, 1, 20, 5, 3);
        Check.due(0, x.choose(later));
        Check.due(1, x.choose(box));
        Check.topic("promise 15, 12 more for the top one's ship");
        int same = Quay.loose(x, 0, 20, 6, 3);
        Check.due(1, x.choose(same));
        Check.topic("promise 15, 3 less for each unit of weight, 24 at most");
        PortHouse y = new PortHouse(1, 4, 3, 4, 100);
        Quay.on(y, 2, 20, 5, 1);
        Check.due(2, y.choose(Quay.loose(y, 0, 14, 5, 2)));
        Check.due(0, y.choose(Quay.loose(y, 0, 13, 5, 2)));
        Check.due(2, y.choose(Quay.loose(y, 0, 1, 5, 1)));
        reservedScore();
    }

    private static void reservedScore() {
        Check.topic("promise 15, 30 more for a row that is reserved");
        PortHouse x = new PortHouse(1, 4, 3, 4, 100);
        Quay.on(x, 0, 20, 5, 1);
        int box = Quay.loose(x, 0, 20, 5, 2);
        x.reserve(2, 2);
        Check.due(0, x.choose(Quay.loose(x, 0, 20, 5, 1)));
        Check.due(2, x.choose(box));
        x.reserve(2, 3);
        Check.due(0, x.choose(box));
        x.reserve(0, 1);
        Check.due(1, x.choose(box));
        Check.topic("promise 15, 52 on a row of its ship against 50 of an empty reserved one");
        PortHouse y = new PortHouse(1, 4, 2, 4, 100);
        Quay.on(y, 1, 20, 5, 1);
        y.reserve(0, 1);
        Check.due(1, y.choose(Quay.loose(y, 0, 20, 5, 1)));
        Check.due(0, y.choose(Quay.loose(y, 0, 19, 5, 1)));
    }

    private static void scoreTies() {
        Check.topic("promise 15, the least of rows with one score");
        PortHouse x = new PortHouse(1, 4, 4, 4, 100);
        int box = Quay.loose(x, 0, 20, 5, 1);
        Check.due(0, x.choose(box));
        Quay.on(x, 3, 20, 5, 2);
        Quay.on(x, 2, 20, 5, 2);
        Check.due(2, x.choose(box));
        for (int least = 0; least < 2; least++) {
            tieOfReserved(least);
            tieOfShip(least);
            tieOfLightest(least);
        }
    }

    // 40 + 12 on a row, and 40 + 12 - 2 * 15 + 30 on one that is reserved: the least, whichever it is.
    private static void tieOfReserved(int one) {
        Check.topic("promise 15, 52 on row " + one + " and on the reserved one");
        PortHouse x = new PortHouse(1, 4, 2, 4, 100);
        Quay.on(x, one, 20, 9, 1);
        Quay.on(x, 1 - one, 20, 5, 1);
        Quay.on(x, 1 - one, 20, 5, 1);
        x.reserve(1 - one, 1);
        Check.due(0, x.choose(Quay.loose(x, 0, 20, 9, 1)));
    }

    // 40 on a row of another ship, and 40 + 12 - 4 * 3 on one of its ship.
    private static void tieOfShip(int one) {
        Check.topic("promise 15, 40 on row " + one + " and on the one of its ship");
        PortHouse x = new PortHouse(1, 4, 2, 4, 100);
        Quay.on(x, one, 16, 9, 2);
        Quay.on(x, 1 - one, 20, 9, 1);
        Check.due(0, x.choose(Quay.loose(x, 0, 16, 9, 1)));
    }

    // 40 - 24 on a row with a much heavier top one, and 40 - 15 - 3 * 3 on one with a box that leaves sooner.
    private static void tieOfLightest(int one) {
        Check.topic("promise 15, 16 on row " + one + " and on the one whose box leaves sooner");
        PortHouse x = new PortHouse(1, 4, 2, 4, 100);
        Quay.on(x, one, 40, 9, 2);
        Quay.on(x, 1 - one, 13, 5, 2);
        Check.due(0, x.choose(Quay.loose(x, 0, 10, 9, 1)));
    }

    private static void chooseNone() {
        Check.topic("promise 15, none");
        PortHouse x = new PortHouse(1, 4, 2, 1, 100);
        int first = Quay.loose(x, 0, 20, 5, 1);
        Check.due(0, x.choose(first));
        x.put(first, 1);
        Check.due(-1, x.choose(first));
        Quay.on(x, 0, 20, 5, 1);
        int aboard = x.box(0, 0, 0, 0, 20, 5, 1);
        Check.due(-1, x.choose(aboard));
        x.take(1);
        Check.due(0, x.choose(1));
        x.take(first);
        x.put(first, 0);
        x.reserve(1, 5);
        Check.due(-1, x.choose(1));
        x.reserve(1, 0);
        Check.due(1, x.choose(1));
        x.away(1, 1 << 15, true);
        Check.due(-1, x.choose(1));
        Check.due(-9, x.put(1, 1));
        x.away(1, 1 << 15, false);
        Check.due(1, x.choose(1));
        Check.thrown(Check.INDEX, () -> x.choose(-1));
        Check.thrown(Check.INDEX, () -> x.choose(3));
    }

    private static void night() {
        Check.topic("promise 16");
        PortHouse x = new PortHouse(1, 4, 3, 4, 100);
        Quay.on(x, 0, 20, 5, 1);
        int way = Quay.on(x, 0, 20, 9, 1);
        int made = x.count(5);
        Check.due(1, x.count(7));
        Check.due(0, x.night(0));
        Check.due(0, x.where(way, 0));
        Check.due(1, x.night(50));
        Check.due(1, x.where(way, 0));
        Check.due(0, x.count(7));
        Check.due(made + 1, x.count(5));
        Check.due(0, x.night(50));
        Check.thrown(Check.ARGUMENT, () -> x.night(-1));
        Check.thrown(Check.ARGUMENT, () -> x.night(51));
        Check.due(way, x.undo());
        Check.due(0, x.where(way, 0));
    }

    private static void nightOrder() {
        Check.topic("promise 16, the one above the most that leave sooner, then the least row's");
        PortHouse x = new PortHouse(1, 4, 4, 4, 100);
        Quay.on(x, 0, 20, 5, 1);
        int one = Quay.on(x, 0, 20, 9, 1);
        Quay.on(x, 2, 20, 5, 1);
        Quay.on(x, 2, 20, 4, 1);
        int two = Quay.on(x, 2, 20, 9, 1);
        Check.due(1, x.night(1));
        Check.due(1, x.where(two, 0));
        Check.due(0, x.where(one, 0));
        Check.due(1, x.night(1));
        Check.due(1, x.where(one, 0));
        Check.due(1, x.where(one, 1));
        PortHouse y = new PortHouse(1, 4, 4, 4, 100);
        Quay.on(y, 2, 20, 5, 1);
        int high = Quay.on(y, 2, 20, 9, 1);
        Quay.on(y, 1, 20, 5, 1);
        int least = Quay.on(y, 1, 20, 9, 1);
        Check.due(1, y.night(1));
        Check.due(0, y.where(least, 0));
        Check.due(2, y.where(high, 0));
    }

    private static void nightNeedsClearRow() {
        Check.topic("promise 16, only onto a row on which it may stand and is not in the way");
        PortHouse x = new PortHouse(1, 4, 3, 4, 100);
        Quay.on(x, 0, 20, 5, 1);
        int way = Quay.on(x, 0, 20, 9, 1);
        Quay.on(x, 1, 20, 8, 1);
        x.reserve(2, 7);
        Check.due(0, x.night(5));
        Check.due(0, x.where(way, 0));
        x.reserve(2, 0);
        Check.due(1, x.night(5));
        Check.due(2, x.where(way, 0));
        Check.topic("promise 16, one that has no such row lets another one go");
        PortHouse y = new PortHouse(1, 4, 3, 4, 100);
        Quay.on(y, 0, 20, 5, 1);
        Quay.on(y, 0, 20, 4, 1);
        int stuck = Quay.on(y, 0, 20, 9, 1);
        Quay.on(y, 1, 20, 5, 1);
        int free = Quay.on(y, 1, 19, 9, 1);
        Quay.on(y, 2, 19, 9, 1);
        Check.due(1, y.night(5));
        Check.due(0, y.where(stuck, 0));
        Check.due(2, y.where(free, 0));
        Check.topic("promise 16, the best of these by the score");
        PortHouse z = new PortHouse(1, 4, 4, 4, 100);
        Quay.on(z, 0, 20, 5, 1);
        int best = Quay.on(z, 0, 20, 9, 1);
        Quay.on(z, 3, 20, 9, 1);
        Check.due(1, z.night(5));
        Check.due(3, z.where(best, 0));
    }

    private static void nightEnds() {
        Check.topic("promise 16, so many moves");
        PortHouse x = new PortHouse(1, 4, 5, 4, 100);
        Quay.on(x, 0, 20, 5, 1);
        Quay.on(x, 0, 20, 9, 1);
        Quay.on(x, 0, 20, 8, 1);
        Check.due(2, x.count(7));
        Check.due(1, x.night(1));
        Check.due(1, x.count(7));
        Check.due(1, x.night(1));
        Check.due(0, x.count(7));
    }

    private static void undo() {
        Check.topic("promise 17");
        PortHouse x = new PortHouse(1, 4, 3, 4, 100);
        Check.due(-1, x.undo());
        int box = Quay.standing(x, 0, 20, 5, 1);
        Check.due(1, x.shift(box, 2));
        Check.due(1, x.take(box));
        Check.due(3, x.count(5));
        Check.due(3, x.count(6));
        Check.due(box, x.undo());
        Check.due(2, x.where(box, 0));
        Check.due(box, x.undo());
        Check.due(0, x.where(box, 0));
        Check.due(1, x.count(5));
        Check.due(1, x.count(6));
        Check.due(box, x.undo());
        Check.due(-1, x.where(box, 0));
        Check.due(3, x.aboard(box, 2));
        Check.due(0, x.count(5));
        Check.due(-1, x.undo());
        Check.due(1, x.count(3));
        Check.due(1, x.put(box, 1));
        Check.due(1, x.count(5));
        Check.due(1, x.count(6));
    }

    private static void undoWhatever() {
        Check.topic("promise 17, whatever the ground is by now, and whom it is reserved for");
        PortHouse x = new PortHouse(1, 4, 3, 4, 100);
        int box = Quay.on(x, 0, 20, 5, 1);
        x.take(box);
        Check.due(true, x.ground(0, 2));
        Check.due(true, x.reserve(0, 9));
        Check.due(box, x.undo());
        Check.due(0, x.where(box, 0));
        Check.due(2, x.count(400));
        Check.due(9, x.count(500));
        Check.topic("promise 17, refused moves are none");
        int made = x.count(5);
        Check.due(-1, x.shift(box, 0));
        Check.due(-2, x.put(Quay.loose(x, 0, 20, 5, 2), 0));
        Check.due(made + 2, x.count(5));
    }

    private static void undoKeepsHundred() {
        Check.topic("promise 17, the latest hundred are kept");
        PortHouse x = new PortHouse(1, 4, 3, 4, 100);
        int box = Quay.standing(x, 0, 20, 5, 1);
        for (int i = 1; i <= 120; i++) {
            Check.due(1, x.shift(box, i % 3));
        }
        Check.due(121, x.count(5));
        Check.due(100, x.count(6));
        for (int i = 119; i >= 90; i--) {
            Check.due(box, x.undo());
            Check.due(i % 3, x.where(box, 0));
        }
        Check.due(70, x.count(6));
        Check.due(1, x.take(box));
        Check.due(71, x.count(6));
        Check.due(92, x.count(5));
        for (int i = 0; i < 71; i++) {
            Check.due(box, x.undo());
        }
        Check.due(-1, x.undo());
        Check.due(21, x.count(5));
        Check.due(0, x.count(6));
        Check.due(20 % 3, x.where(box, 0));
    }

    private static void undoNotBehind() {
        Check.topic("promise 17, not if its box is AWAY now");
        PortHouse x = new PortHouse(1, 4, 3, 4, 100);
        int box = Quay.loose(x, 0, 20, 5, 1);
        Check.due(true, x.away(box, 1 << 15, true));
        Check.due(-1, x.undo());
        Check.due(2, x.count(6));
        Check.due(true, x.away(box, 1 << 15, false));
        Check.due(box, x.undo());
        Check.due(0, x.where(box, 0));
    }

    private static void where() {
        Check.topic("promise 18");
        PortHouse x = new PortHouse(1, 4, 3, 4, 100);
        int low = Quay.on(x, 1, 20, 5, 3);
        int mid = Quay.on(x, 1, 19, 9, 3);
        int top = Quay.on(x, 1, 18, 9, 3);
        Check.due(1, x.where(low, 0));
        Check.due(0, x.where(low, 1));
        Check.due(2, x.where(low, 2));
        Check.due(0, x.where(low, 3));
        Check.due(1, x.where(mid, 1));
        Check.due(1, x.where(mid, 2));
        Check.due(1, x.where(mid, 3));
        Check.due(0, x.where(top, 2));
        Check.due(1, x.where(top, 3));
        Check.due(2, x.count(7));
        Check.due(3, x.count(4));
        Check.due(3, x.count(201));
        Check.due(57, x.count(301));
        Check.due(1, x.where(mid, 4));
        Check.due(19, x.where(mid, 5));
        Check.due(9, x.where(mid, 6));
        Check.due(3, x.where(mid, 7));
        Check.due(0, x.where(mid, 8));
        x.take(top);
        Check.due(0, x.where(top, 2));
        Check.due(0, x.where(top, 3));
        int[][] wrong = {{-1, 0}, {3, 0}, {0, -1}, {0, 9}};
        for (int[] a : wrong) {
            Check.thrown(Check.INDEX, () -> x.where(a[0], a[1]));
        }
        Check.topic("promise 18, one that leaves the same day is not in the way");
        int same = Quay.on(x, 2, 20, 5, 3);
        int upon = Quay.on(x, 2, 20, 5, 3);
        Check.due(0, x.where(upon, 3));
        Check.due(0, x.where(same, 3));
    }

    private static void at() {
        Check.topic("promise 19");
        PortHouse x = new PortHouse(1, 4, 3, 2, 100);
        int low = Quay.on(x, 1, 20, 5, 3);
        int top = Quay.on(x, 1, 19, 9, 3);
        Check.due(low, x.at(1, 0));
        Check.due(top, x.at(1, 1));
        Check.due(-1, x.at(0, 0));
        x.take(top);
        Check.due(-1, x.at(1, 1));
        int[][] wrong = {{-1, 0}, {3, 0}, {0, -1}, {0, 2}};
        for (int[] a : wrong) {
            Check.thrown(Check.INDEX, () -> x.at(a[0], a[1]));
        }
    }
}
