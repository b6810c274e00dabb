/** Boundary cases of promise 87, each by the document's words. */
public final class CountEdgesTest {
    private static final int FAR_BELOW = Integer.MIN_VALUE;
    private static final int FAR_ABOVE = Integer.MAX_VALUE;

    public static void main(String[] args) {
        noneForAnother();
        bays();
        rows();
        groups();
        boxes();
        latest();
        states();
        oneMore();
        noneMore();
        Check.end();
    }

    private static void noneForAnother() {
        Edge.of(87, "NONE for another what");
        PortHouse x = new PortHouse(12, 4, 20, 8, 400);
        for (int what = 41; what < 100; what++) {
            Check.due(-1, x.count(what));
        }
        for (int what : new int[] {FAR_BELOW, -624, -600, -500, -200, -100, -99, -41, -40, -1, 700, 716, 816, 1000,
            1100, 20000, FAR_ABOVE}) {
            Check.due(-1, x.count(what));
        }
    }

    private static void bays() {
        Edge.of(87, "100 + b: moves left of the plan of bay b (NONE without) .. NONE for another .. bay");
        for (int bays : new int[] {1, 2, 11, 12}) {
            PortHouse x = new PortHouse(bays, 4, 20, 8, 400);
            for (int bay = 0; bay < bays; bay++) {
                Check.due(-1, x.count(100 + bay));
                x.plan(bay);
                Check.due(0, x.count(100 + bay));
            }
            Check.due(-1, x.count(100 + bays));
            Check.due(-1, x.count(99));
            Check.due(-1, x.count(199));
        }
        PortHouse y = new PortHouse(12, 4, 20, 8, 400);
        y.box(11, 0, 0, 0, 1, 0, 1);
        y.box(11, 1, 0, 0, 1, 0, 1);
        for (int left = y.plan(11); left > 0; left--) {
            Check.due(left, y.count(111));
            y.work(11);
        }
        Check.due(0, y.count(111));
        y.box(11, 0, 0, 0, 1, 0, 1);
        Check.due(-1, y.count(111));
    }

    private static void rows() {
        Edge.of(87, "200 + r: boxes of row r, 300 + r: its weight, 400 + r: its GROUND, 500 + r: the ship for which it"
                + " is RESERVED .. NONE for another .. row");
        for (int rows : new int[] {1, 2, 19, 20}) {
            PortHouse x = new PortHouse(1, 4, rows, 8, 400);
            for (int of = 200; of <= 500; of += 100) {
                Check.due(0, x.count(of));
                Check.due(0, x.count(of + rows - 1));
                Check.due(-1, x.count(of + rows));
                Check.due(-1, x.count(of + 99));
            }
            int last = rows - 1;
            Quay.on(x, last, 7, 5, 9);
            Quay.on(x, last, 6, 5, 9);
            Check.due(2, x.count(200 + last));
            Check.due(13, x.count(300 + last));
            Check.due(true, x.reserve(last, 9));
            Check.due(9, x.count(500 + last));
            x.take(1);
            x.take(0);
            Check.due(true, x.ground(last, 2));
            Check.due(2, x.count(400 + last));
            Check.due(0, x.count(200 + last));
            Check.due(0, x.count(300 + last));
        }
    }

    private static void groups() {
        Edge.of(87, "600 + g: how many lands are in group g (616 .. 623) .. NONE for another .. group");
        PortHouse x = new PortHouse(1, 4, 20, 8, 400);
        for (int what = 600; what < 700; what++) {
            Check.due(what >= 616 && what <= 623 ? 0 : -1, x.count(what));
        }
        x.member(23, 0);
        x.member(23, 15);
        x.member(16, 23);
        x.member(16, 0);
        Check.due(2, x.count(623));
        Check.due(2, x.count(616));
        Check.due(0, x.count(617));
    }

    private static void boxes() {
        Edge.of(87, "0: boxes, 1: those ASHORE, 2: ASIDE, 3: moves worked; 4: boxes that stand in the yard, 5: moves of"
                + " the yard that were made and not undone, 6: those that can be undone (kept)");
        PortHouse x = new PortHouse(1, 4, 2, 8, 400);
        x.box(0, 0, 0, 0, 5, 5, 1);
        x.box(0, 0, 1, 0, 5, 5, 1);
        x.plan(0);
        int[][] due = {{2, 0, 0, 0, 0, 0, 0}, {2, 0, 0, 1, 0, 0, 0}, {2, 1, 0, 2, 1, 1, 1}};
        for (int i = 0; i < due.length; i++) {
            for (int what = 0; what < 7; what++) {
                Check.due(due[i][what], x.count(what));
            }
            if (i < 2) {
                x.work(0);
            }
        }
        x.take(0);
        Check.due(0, x.count(4));
        Check.due(2, x.count(5));
        x.undo();
        Check.due(1, x.count(4));
        Check.due(1, x.count(5));
        Check.due(1, x.count(6));
    }

    private static void latest() {
        Edge.of(87, "30: the closed day, 31: the KNOWN day of the latest posted batch (NONE without), 32: WHAT WAS"
                + " WRONG (0 without), 33: the account that was NAMED (NONE without)");
        PortHouse x = new PortHouse(1, 1, 1, 1, 1);
        int[] first = {-1, -1, 0, -1};
        for (int i = 0; i < 4; i++) {
            Check.due(first[i], x.count(30 + i));
        }
        x.batch(0, 7);
        Check.due(-1, x.count(31));
        x.entry(0, 0, 1);
        x.entry(0, 1, -1);
        x.post(0);
        Check.due(7, x.count(31));
        x.batch(0, 9);
        x.entry(1, 5, 1);
        Check.thrown(Check.STATE, () -> x.post(1));
        Check.due(7, x.count(31));
        Check.due(2, x.count(32));
        Check.due(5, x.count(33));
        x.close(0);
        Check.due(0, x.count(30));
    }

    private static void states() {
        Edge.of(87, "35: declarations, 36 .. 40: those of state 0 .. 4");
        PortHouse x = Customs.house(4, "100%");
        x.guarantee(0, 1000, 1, 1, false, 0);
        int[] most = {1, 2, 3, 4, 5};
        for (int state = 0; state < 5; state++) {
            for (int n = 0; n < most[state]; n++) {
                int d = Customs.declared(x, 0, 0, 5, 10);
                if (state > 0) {
                    x.assess(d, 0);
                }
                if (state == 2) {
                    x.pay(d, 0);
                } else if (state == 3) {
                    x.claim(d, 0);
                } else if (state == 4) {
                    x.cancel(d);
                }
            }
        }
        Check.due(15, x.count(35));
        for (int state = 0; state < 5; state++) {
            Check.due(most[state], x.count(36 + state));
        }
        Edge.of(87, "20: guarantees, 21: reservations, 22: LIVE ones");
        Check.due(1, x.count(20));
        Check.due(14, x.count(21));
        Check.due(2, x.count(22));
    }

    /** Boxes 0 (stands), 1 (in no row, goods 0 free) and 2 (aboard); what a test needs to make one more of each. */
    private static PortHouse house() {
        PortHouse x = new PortHouse(2, 4, 2, 4, 400);
        Quay.on(x, 0, 2, 5, 1);
        Quay.loose(x, 0, 2, 9, 1);
        Quay.freed(x, 1);
        x.box(1, 0, 0, 0, 2, 5, 1);
        x.goods(2, 1000);
        x.row(12, PortHouse.ALL, 0, PortHouse.OPEN, 4, 0, 0);
        Tape.rate(x, 1, "100%");
        x.plan(1);
        x.guarantee(0, 1000, 1, 1, false, 0);
        x.batch(0, 7);
        x.entry(0, 3, 1);
        x.batch(0, 7);
        x.entry(1, 3, 1);
        x.entry(1, 4, -1);
        return x;
    }

    private static void goesUp(int what, int by, Edge.Act act) {
        Edge.at(Integer.toString(what));
        PortHouse x = house();
        int before = x.count(what);
        act.on(x);
        Check.due(before + by, x.count(what));
    }

    private static void oneMore() {
        Edge.of(87, "7: boxes IN THE WAY; 8: goods, 9: notices told in all, 10: boxes BEHIND, 11 .. 14: FAILURES of"
                + " sources 0 .. 3; 15: rows of D, 16: rows in the latest list; 17: signs of the TAPE, 18: signs of what"
                + " was printed last; 19: orders; 20: guarantees, 21: reservations, 22: LIVE ones, 23: TODAY, 24 .. 27:"
                + " FAILURES of desks 0 .. 3; 28: batches, 29: entries of the ledger, .. 34: how often a batch FAILED");
        goesUp(7, 1, x -> x.put(1, 0));
        goesUp(8, 1, x -> x.goods(0, 1));
        goesUp(9, 1, x -> x.bar(0, 0, 0, 0));
        goesUp(10, 1, x -> {
            x.part(1, 2000);
            x.gate(1);
        });
        for (int source = 0; source < 4; source++) {
            int s = source;
            goesUp(11 + source, 1, x -> {
                x.rule(s, 4, 0);
                x.release(0);
            });
        }
        goesUp(15, 1, x -> x.row(13, 3, 0, 0, 0, 0, 0));
        goesUp(16, 1, x -> x.apply(123456, 0, 0, 0));
        goesUp(17, 8, x -> x.type(0x2020202020202020L, 8));
        goesUp(18, 4, x -> x.print(1));
        goesUp(19, 1, x -> x.order(1, 0, 0));
        goesUp(20, 1, x -> x.guarantee(7, 1, 1, 1, false, 0));
        goesUp(21, 1, x -> x.assess(x.declare(1, 0, 0, 123456, 0, 0, 5), 0));
        goesUp(22, 1, x -> x.assess(x.declare(1, 0, 0, 123456, 0, 0, 5), 0));
        goesUp(23, 9, x -> x.tick(9));
        for (int desk = 0; desk < 4; desk++) {
            int d = desk;
            goesUp(24 + desk, 1, x -> {
                x.fails(d, true);
                x.assess(x.declare(1, 0, d, 123456, 0, 0, 5), 0);
            });
        }
        goesUp(28, 1, x -> x.batch(0, 0));
        goesUp(29, 2, x -> x.post(1));
        goesUp(34, 1, x -> {
            x.failing(1, true);
            Check.thrown(Check.UNSUPPORTED, () -> x.post(1));
        });
    }

    private static void noneMore() {
        Edge.of(87, "23: TODAY, .. 17: signs of the TAPE, 18: signs of what was printed last: as little as there is");
        goesUp(17, 0, x -> {
            x.type(0x20L, 1);
            x.rate(1);
        });
        goesUp(18, 0, x -> Check.thrown(Check.ARGUMENT, () -> x.print(2)));
        goesUp(16, 0, x -> x.apply(999999, 0, 0, 0));
        goesUp(21, 0, x -> x.assess(x.declare(1, 0, 0, 123456, 0, 0, 0), 0));
        goesUp(22, 0, x -> {
            int d = x.declare(1, 0, 0, 123456, 0, 0, 5);
            x.assess(d, 0);
            x.pay(d, 0);
        });
        goesUp(9, 1, x -> {
            x.bar(0, 0, 0, 0);
            x.bar(0, 0, 0, 0);
        });
        goesUp(29, 0, x -> Check.thrown(Check.STATE, () -> x.post(0)));
    }
}
