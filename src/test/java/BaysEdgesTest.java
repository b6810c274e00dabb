/** Boundary cases of promises 1 to 9 and of the terms A, each by the document's words. */
public final class BaysEdgesTest {
    private static final int FAR_BELOW = Integer.MIN_VALUE;
    private static final int FAR_ABOVE = Integer.MAX_VALUE;

    public static void main(String[] args) {
        heldToBays();
        heldToTiers();
        heldToRows();
        heldToHigh();
        heldToBears();
        nothingElseIsThere();
        boxArguments();
        boxHundred();
        boxFourInBay();
        boxStackFull();
        boxFirstException();
        boxAbove();
        needNoneSuch();
        needOtherBay();
        needAshore();
        needNotHere();
        needTold();
        needRing();
        needRingThroughAshore();
        planNoBay();
        planNothingToDo();
        planFirstOfShortest();
        planOfNeeds();
        planVoid();
        planNotVoid();
        planAnew();
        moveEdges();
        workNoRow();
        workRefused();
        leastEdges();
        swapAnswers();
        swapRefused();
        swapNeeds();
        swapFromBayToBay();
        aboardEdges();
        Check.end();
    }

    private static int plain(PortHouse x, int bay, int stack, int port) {
        return x.box(bay, stack, port, 0, 10, 5, 1);
    }

    private static void workAll(PortHouse x, int bay) {
        for (int left = x.plan(bay); left > 0; left--) {
            x.work(bay);
        }
    }

    // ---- promise 1

    private static int baysOf(int told) {
        PortHouse x = new PortHouse(told, 1, 1, 1, 1);
        int n = 0;
        for (boolean is = true; is && n < 50; n += is ? 1 : 0) {
            try {
                x.plan(n);
            } catch (IllegalArgumentException e) {
                is = false;
            }
        }
        return n;
    }

    private static void heldToBays() {
        Edge.of(1, "So many bays (1 .. 12) .. held to these");
        int[][] toldAndHeld = {{FAR_BELOW, 1}, {-1, 1}, {0, 1}, {1, 1}, {2, 2}, {11, 11}, {12, 12}, {13, 12},
            {FAR_ABOVE, 12}};
        for (int[] a : toldAndHeld) {
            Check.due(a[1], baysOf(a[0]));
        }
    }

    private static int tiersOf(int told) {
        PortHouse x = new PortHouse(1, told, 1, 1, 1);
        int n = 0;
        for (boolean is = true; is && n < 50; n += is ? 1 : 0) {
            try {
                plain(x, 0, 0, 1);
            } catch (IllegalStateException e) {
                is = false;
            }
        }
        return n;
    }

    private static void heldToTiers() {
        Edge.of(1, "tiers of them (1 .. 4) .. held to these");
        int[][] toldAndHeld = {{FAR_BELOW, 1}, {-1, 1}, {0, 1}, {1, 1}, {2, 2}, {3, 3}, {4, 4}, {5, 4}, {FAR_ABOVE, 4}};
        for (int[] a : toldAndHeld) {
            Check.due(a[1], tiersOf(a[0]));
        }
    }

    private static int rowsOf(int told) {
        PortHouse x = new PortHouse(1, 1, told, 1, 1);
        int n = 0;
        while (n < 50 && x.ground(n, 0)) {
            n++;
        }
        return n;
    }

    private static void heldToRows() {
        Edge.of(1, "rows of the yard (1 .. 20) .. held to these");
        int[][] toldAndHeld = {{FAR_BELOW, 1}, {-1, 1}, {0, 1}, {1, 1}, {2, 2}, {19, 19}, {20, 20}, {21, 20},
            {FAR_ABOVE, 20}};
        for (int[] a : toldAndHeld) {
            Check.due(a[1], rowsOf(a[0]));
        }
    }

    private static int highOf(int told) {
        PortHouse x = new PortHouse(3, 4, 1, told, 400);
        for (int box = 0; box < 9; box++) {
            x.box(box / 3, box % 3, 0, 0, 1, 5, 1);
        }
        for (int bay = 0; bay < 3; bay++) {
            workAll(x, bay);
        }
        return x.count(200);
    }

    private static void heldToHigh() {
        Edge.of(1, "boxes one upon the other there (1 .. 8) .. held to these");
        int[][] toldAndHeld = {{FAR_BELOW, 1}, {-1, 1}, {0, 1}, {1, 1}, {2, 2}, {7, 7}, {8, 8}, {9, 8}, {FAR_ABOVE, 8}};
        for (int[] a : toldAndHeld) {
            Check.due(a[1], highOf(a[0]));
        }
    }

    /** Whether a ground bears boxes of these weights one upon the other. */
    private static boolean isBorne(int told, int... weights) {
        PortHouse x = new PortHouse(4, 4, 1, 8, told);
        int stand = 0;
        for (int i = 0; i < weights.length; i++) {
            x.box(i / 3, i % 3, 0, 0, weights[i], 5, 1);
            x.plan(i / 3);
            stand += x.work(i / 3) == 0 ? 1 : 0;
        }
        return stand == weights.length;
    }

    private static void heldToBears() {
        Edge.of(1, "what a ground bears (1 .. 400): held to these");
        for (int told : new int[] {FAR_BELOW, -1, 0, 1}) {
            Check.due(true, isBorne(told, 1));
            Check.due(false, isBorne(told, 2));
        }
        Check.due(true, isBorne(2, 2));
        Check.due(false, isBorne(2, 3));
        int[] most = {40, 40, 40, 40, 40, 40, 40, 40};
        Check.due(false, isBorne(319, most));
        for (int told : new int[] {320, 399, 400, 401, FAR_ABOVE}) {
            Check.due(true, isBorne(told, most));
        }
    }

    private static void nothingElseIsThere() {
        Edge.of(1, "Nothing else is there");
        PortHouse x = new PortHouse(12, 4, 20, 8, 400);
        for (int what = 0; what <= 40; what++) {
            Check.due(what == 30 || what == 31 || what == 33 ? -1 : 0, x.count(what));
        }
        for (int bay = 0; bay < 12; bay++) {
            Check.due(-1, x.count(100 + bay));
            Check.due(0, x.least(bay));
        }
        for (int row = 0; row < 20; row++) {
            Check.due(0, x.count(200 + row) + x.count(300 + row) + x.count(400 + row) + x.count(500 + row));
        }
        for (int group = 16; group < 24; group++) {
            Check.due(0, x.count(600 + group));
        }
        for (int holder = 0; holder < 8; holder++) {
            Check.due(0, x.free(holder));
            Check.due(-1, x.list(holder, 0));
        }
        for (int account = 0; account < 12; account++) {
            Check.due(0, x.account(account, 100000, 100000));
        }
    }

    // ---- promise 2

    private static int box(PortHouse x, int[] a) {
        return x.box(a[0], a[1], a[2], a[3], a[4], a[5], a[6]);
    }

    private static void boxArguments() {
        String[] words = {"bay", "stack", "port", "sort (3 * KIND + SIZE - 1)", "WEIGHT", "day", "SHIP"};
        int[] least = {0, 0, 0, 0, 1, 0, 1};
        int[] most = {2, 2, 5, 8, 40, 1000, 9};
        Edge.House house = () -> {
            PortHouse x = new PortHouse(3, 2, 2, 2, 100);
            plain(x, 1, 1, 0);
            x.plan(1);
            return x;
        };
        for (int i = 0; i < 7; i++) {
            Edge.of(2, "IllegalArgumentException if there is no such .. " + words[i]);
            for (int value : new int[] {least[i], most[i]}) {
                int[] good = {0, 0, 0, 0, 10, 5, 1};
                good[i] = value;
                Check.due(1, box(house.make(), good));
            }
            for (int value : new int[] {least[i] - 1, most[i] + 1, FAR_BELOW, FAR_ABOVE}) {
                int[] bad = {0, 0, 0, 0, 10, 5, 1};
                bad[i] = value;
                Edge.thrown(Check.ARGUMENT, house, x -> box(x, bad));
            }
        }
    }

    /** Bays 1 to 12 but one box are full, and 52 boxes are ashore: 99 in all. */
    private static PortHouse ninetyNine() {
        PortHouse x = new PortHouse(12, 4, 20, 8, 400);
        for (int box = 0; box < 52; box++) {
            x.box(0, box % 3, 0, 0, 1, 5, 1);
            if (box % 4 == 3) {
                workAll(x, 0);
            }
        }
        for (int box = 52; box < 99; box++) {
            Check.due(box, x.box((box - 52) / 4, box % 3, 1, 0, 1, 5, 1));
        }
        return x;
    }

    // So many calls made it that those that show that nothing changed are few.
    private static void boxHundred() {
        Edge.of(2, "IllegalStateException if there are 100");
        Check.due(99, plain(ninetyNine(), 11, 0, 0));
        PortHouse x = ninetyNine();
        plain(x, 11, 0, 1);
        workAll(x, 0);
        x.plan(11);
        Edge.of(2, "IllegalStateException if there are 100, or 4 in that bay: both");
        Check.thrown(Check.STATE, () -> plain(x, 11, 0, 1));
        Edge.of(2, "IllegalStateException if there are 100: where there is room");
        PortHouse y = new PortHouse(12, 4, 20, 8, 400);
        for (int box = 0; box < 100; box++) {
            y.box(box / 4 % 12, box % 3, 0, 0, 1, 5, 1);
            if (box % 4 == 3 && box < 96) {
                workAll(y, box / 4 % 12);
            }
        }
        y.plan(0);
        int[] counts = {100, 96, 0, 96, 96, 96, 96};
        for (int times = 0; times < 2; times++) {
            Check.thrown(Check.STATE, () -> plain(y, 5, 0, 0));
            for (int what = 0; what < counts.length; what++) {
                Check.due(counts[what], y.count(what));
            }
            Check.due(4, y.count(100));
            Check.due(0, y.count(105));
            Check.due(0, y.least(5));
            Check.thrown(Check.INDEX, () -> y.aboard(100, 0));
        }
        Edge.of(2, "Of several exceptions the one told first is thrown");
        Check.thrown(Check.ARGUMENT, () -> plain(y, 5, 0, 6));
    }

    private static void boxFourInBay() {
        Edge.of(2, "or 4 in that bay");
        Edge.House three = () -> {
            PortHouse x = new PortHouse(2, 4, 2, 2, 100);
            plain(x, 0, 0, 1);
            plain(x, 0, 1, 1);
            plain(x, 0, 2, 0);
            return x;
        };
        Check.due(3, plain(three.make(), 0, 0, 1));
        Edge.House four = () -> {
            PortHouse x = three.make();
            plain(x, 0, 0, 1);
            x.plan(0);
            return x;
        };
        for (int stack = 0; stack < 3; stack++) {
            int s = stack;
            Edge.thrown(Check.STATE, four, x -> plain(x, 0, s, 1));
        }
        Check.due(4, plain(four.make(), 1, 0, 1));
        Edge.term(2, "In a bay lie 4 at most");
        PortHouse x = four.make();
        x.work(0);
        Check.due(4, plain(x, 0, 0, 1));
        Check.thrown(Check.STATE, () -> plain(x, 0, 0, 1));
    }

    private static void boxStackFull() {
        Edge.of(2, "or the stack is full");
        for (int tiers = 1; tiers <= 3; tiers++) {
            int most = tiers;
            Edge.House full = () -> {
                PortHouse x = new PortHouse(2, most, 2, 2, 100);
                for (int i = 0; i < most; i++) {
                    Check.due(i, plain(x, 1, 1, 1));
                }
                return x;
            };
            Edge.thrown(Check.STATE, full, x -> plain(x, 1, 1, 1));
            Check.due(most, plain(full.make(), 1, 0, 1));
            Check.due(most, plain(full.make(), 1, 2, 1));
            Check.due(most, plain(full.make(), 0, 1, 1));
        }
    }

    private static void boxFirstException() {
        Edge.of(2, "Of several exceptions the one told first is thrown");
        Edge.House full = () -> {
            PortHouse x = new PortHouse(1, 1, 2, 2, 100);
            plain(x, 0, 0, 1);
            return x;
        };
        Edge.thrown(Check.STATE, full, x -> x.box(0, 0, 0, 0, 40, 5, 1));
        Edge.thrown(Check.ARGUMENT, full, x -> x.box(0, 0, 0, 0, 41, 5, 1));
    }

    private static void boxAbove() {
        Edge.term(2, "at first lie in a stack of a bay, those told later above");
        PortHouse x = new PortHouse(1, 4, 2, 2, 100);
        for (int box = 0; box < 4; box++) {
            plain(x, 0, 2, 1);
            Check.due(box, x.aboard(box, 3));
            Check.due(2, x.aboard(box, 2));
        }
    }

    // ---- promise 3

    /** Boxes 0, 1, 2 leave HERE from bay 0, 3 goes on; 4 leaves from bay 1. */
    private static PortHouse mixed() {
        PortHouse x = new PortHouse(2, 3, 4, 3, 100);
        plain(x, 0, 0, 0);
        plain(x, 0, 1, 0);
        plain(x, 0, 2, 0);
        plain(x, 0, 0, 1);
        plain(x, 1, 0, 0);
        x.plan(0);
        x.plan(1);
        return x;
    }

    private static final Edge.House MIXED = BaysEdgesTest::mixed;

    private static void needNoneSuch() {
        Edge.of(3, "false if there are none such");
        for (int none : new int[] {-1, 5, FAR_BELOW, FAR_ABOVE}) {
            Edge.refused(MIXED, x -> x.before(none, 0));
            Edge.refused(MIXED, x -> x.before(0, none));
        }
        Edge.refused(() -> new PortHouse(1, 1, 1, 1, 1), x -> x.before(0, 0));
        Check.due(true, mixed().before(0, 1));
    }

    private static void needOtherBay() {
        Edge.of(3, "they are not of one bay");
        Edge.refused(MIXED, x -> x.before(0, 4));
        Edge.refused(MIXED, x -> x.before(4, 0));
    }

    private static void needAshore() {
        Edge.of(3, "one is ASHORE");
        Edge.House ashore = () -> {
            PortHouse x = mixed();
            x.swap(0, 2);
            x.plan(0);
            while (x.aboard(1, 2) != 3) {
                x.work(0);
            }
            return x;
        };
        Check.due(3, ashore.make().aboard(1, 2));
        Check.due(true, ashore.make().aboard(0, 2) != 3);
        Edge.refused(ashore, x -> x.before(0, 1));
        Edge.refused(ashore, x -> x.before(1, 0));
    }

    private static void needNotHere() {
        Edge.of(3, "or does not leave HERE");
        Edge.refused(MIXED, x -> x.before(0, 3));
        Edge.refused(MIXED, x -> x.before(3, 0));
        for (int port = 1; port <= 5; port++) {
            int later = port;
            Edge.refused(() -> {
                PortHouse x = new PortHouse(1, 3, 4, 3, 100);
                plain(x, 0, 0, 0);
                plain(x, 0, 1, later);
                return x;
            }, x -> x.before(0, 1));
        }
    }

    private static void needTold() {
        Edge.of(3, "it is told");
        Edge.House told = () -> {
            PortHouse x = mixed();
            Check.due(true, x.before(0, 1));
            x.plan(0);
            return x;
        };
        Edge.refused(told, x -> x.before(0, 1));
    }

    private static void needRing() {
        Edge.of(3, "or a ring would come of it (one before itself, too)");
        Edge.refused(MIXED, x -> x.before(0, 0));
        Edge.House four = () -> {
            PortHouse x = new PortHouse(1, 4, 4, 4, 100);
            for (int box = 0; box < 4; box++) {
                plain(x, 0, box % 3, 0);
            }
            return x;
        };
        int[][] rings = {{0, 1}, {0, 1, 2}, {2, 1, 0}, {1, 0, 2}, {0, 1, 2, 3}, {3, 2, 1, 0}, {2, 0, 3, 1},
            {1, 3, 0, 2}};
        for (int[] ring : rings) {
            Edge.House chain = () -> {
                PortHouse x = four.make();
                for (int i = 0; i + 1 < ring.length; i++) {
                    Check.due(true, x.before(ring[i], ring[i + 1]));
                }
                x.plan(0);
                return x;
            };
            Edge.refused(chain, x -> x.before(ring[ring.length - 1], ring[0]));
            if (ring.length > 2) {
                Check.due(true, chain.make().before(ring[0], ring[ring.length - 1]));
            }
        }
    }

    private static void needRingThroughAshore() {
        Edge.of(3, "or a ring would come of it: not of needs between boxes that are ASHORE");
        PortHouse x = new PortHouse(1, 3, 4, 3, 100);
        plain(x, 0, 0, 0);
        plain(x, 0, 1, 0);
        x.before(0, 1);
        workAll(x, 0);
        plain(x, 0, 0, 0);
        plain(x, 0, 1, 0);
        Check.due(true, x.before(3, 2));
        Check.due(false, x.before(2, 3));
    }

    // ---- promise 4

    private static String told(PortHouse x, int bay) {
        StringBuilder s = new StringBuilder();
        for (int i = 0, n = x.plan(bay); i < n; i++) {
            s.append(i > 0 ? " " : "").append(x.move(bay, i, 0)).append(':').append(x.move(bay, i, 1)).append('>')
                    .append(x.move(bay, i, 2));
        }
        return s.toString();
    }

    private static void planNoBay() {
        Edge.of(4, "IllegalArgumentException if there is no such bay");
        for (int none : new int[] {-1, 2, FAR_BELOW, FAR_ABOVE}) {
            Edge.thrown(Check.ARGUMENT, MIXED, x -> x.plan(none));
        }
        Check.due(1, mixed().plan(1));
    }

    private static void planNothingToDo() {
        Edge.term(4, "(0 moves if nothing is to be done)");
        PortHouse x = new PortHouse(2, 3, 4, 3, 100);
        Check.due(-1, x.count(100));
        Check.due(0, x.plan(0));
        Check.due(0, x.count(100));
        plain(x, 0, 0, 1);
        plain(x, 0, 0, 5);
        Check.due(-1, x.count(100));
        Check.due(0, x.plan(0));
        plain(x, 1, 0, 0);
        workAll(x, 1);
        Check.due(0, x.count(101));
        Check.due(0, x.plan(1));
    }

    private static void planFirstOfShortest() {
        Edge.term(4, "of such the first: move by move, the less from ahead, then the less to");
        PortHouse x = new PortHouse(1, 3, 4, 3, 100);
        plain(x, 0, 1, 0);
        plain(x, 0, 2, 0);
        plain(x, 0, 0, 0);
        Check.due("2:0>3 0:1>3 1:2>3", told(x, 0));
        PortHouse y = new PortHouse(1, 4, 4, 4, 100);
        plain(y, 0, 2, 0);
        plain(y, 0, 2, 4);
        Check.due("1:2>0 0:2>3", told(y, 0));
        Edge.term(4, "another stack that has room");
        PortHouse z = new PortHouse(1, 1, 4, 4, 100);
        plain(z, 0, 0, 1);
        plain(z, 0, 1, 1);
        plain(z, 0, 2, 0);
        Check.due("2:2>3", told(z, 0));
        PortHouse full = new PortHouse(1, 2, 4, 4, 100);
        plain(full, 0, 0, 1);
        plain(full, 0, 0, 1);
        plain(full, 0, 1, 0);
        plain(full, 0, 1, 1);
        Check.due("3:1>2 2:1>3", told(full, 0));
    }

    private static void planOfNeeds() {
        Edge.term(4, "ASHORE (3) if it leaves HERE and all that are to go ahead of it are ASHORE");
        PortHouse x = new PortHouse(1, 3, 4, 3, 100);
        plain(x, 0, 0, 0);
        plain(x, 0, 1, 0);
        plain(x, 0, 2, 0);
        x.before(2, 1);
        x.before(1, 0);
        Check.due("2:2>3 1:1>3 0:0>3", told(x, 0));
        Edge.term(4, "all that are to go ahead of it are ASHORE: a need that is through holds no box");
        x.work(0);
        Check.due("1:1>3 0:0>3", told(x, 0));
        x.work(0);
        Check.due("0:0>3", told(x, 0));
    }

    private static void planVoid() {
        Edge.term(4, "is void when a box or a need of that bay is told, or a box of it swapped");
        PortHouse box = mixed();
        plain(box, 1, 0, 0);
        Check.due(-1, box.count(101));
        Check.due(3, box.count(100) - 1);
        PortHouse need = mixed();
        need.before(0, 1);
        Check.due(-1, need.count(100));
        Check.due(1, need.count(101));
        PortHouse swapped = mixed();
        Check.due(1, swapped.swap(0, 1));
        Check.due(-1, swapped.count(100));
        Check.due(1, swapped.count(101));
        PortHouse both = mixed();
        Check.due(1, both.swap(0, 4));
        Check.due(-1, both.count(100));
        Check.due(-1, both.count(101));
        Check.thrown(Check.STATE, () -> both.work(0));
        Check.thrown(Check.INDEX, () -> both.move(0, 0, 0));
    }

    private static void planNotVoid() {
        Edge.term(4, "What throws or is refused changes nothing: a plan stays");
        PortHouse x = mixed();
        Check.due(4, x.count(100));
        Check.thrown(Check.STATE, () -> plain(x, 0, 0, 0));
        Check.due(false, x.before(0, 3));
        Check.due(0, x.swap(0, 3));
        Check.due(4, x.count(100));
        Check.due(3, x.work(0));
        Check.due(3, x.count(100));
    }

    private static void planAnew() {
        Edge.term(4, "made by the boxes as they lie, also anew when one was worked in part");
        PortHouse x = mixed();
        Check.due("1:1>3 3:0>1 0:0>3 2:2>3", told(x, 0));
        PortHouse y = mixed();
        int all = y.plan(0);
        y.work(0);
        y.work(0);
        Check.due(all - 2, y.count(100));
        Check.due(all - 2, y.plan(0));
        Check.due(0, y.move(0, 0, 3));
    }

    // ---- promises 5 to 7

    private static void moveEdges() {
        Edge.of(5, "IndexOutOfBoundsException if there is no such bay, move or what, or no plan");
        Edge.House planned = () -> {
            PortHouse x = mixed();
            x.work(0);
            plain(x, 1, 0, 0);
            return x;
        };
        int[][] none = {{-1, 0, 0}, {2, 0, 0}, {FAR_BELOW, 0, 0}, {FAR_ABOVE, 0, 0}, {0, -1, 0}, {0, 4, 0},
            {0, FAR_BELOW, 0}, {0, FAR_ABOVE, 0}, {0, 0, -1}, {0, 0, 4}, {0, 0, FAR_BELOW}, {0, 0, FAR_ABOVE},
            {1, 0, 0}};
        for (int[] a : none) {
            Edge.thrown(Check.INDEX, planned, x -> x.move(a[0], a[1], a[2]));
        }
        Edge.of(5, "Move i of a bay's plan (0 the first that was planned) .. 3: 1 if it was worked, else 0");
        PortHouse x = planned.make();
        Check.due(1, x.move(0, 0, 3));
        Check.due(0, x.move(0, 1, 3));
        Check.due(0, x.move(0, 3, 3));
        Edge.of(5, "or no plan: none was ever made, or one of no moves");
        PortHouse y = new PortHouse(1, 1, 1, 1, 1);
        Check.thrown(Check.INDEX, () -> y.move(0, 0, 0));
        y.plan(0);
        Check.thrown(Check.INDEX, () -> y.move(0, 0, 0));
    }

    private static void workNoRow() {
        Edge.of(6, "NONE if a box has no row to stand on");
        Edge.House noRow = () -> {
            PortHouse x = new PortHouse(1, 3, 1, 1, 100);
            plain(x, 0, 0, 0);
            plain(x, 0, 1, 0);
            x.plan(0);
            Check.due(1, x.work(0));
            return x;
        };
        Edge.answered(-1, noRow, x -> x.work(0));
        Edge.term(6, "if there is none, the move is not done");
        PortHouse x = noRow.make();
        Check.due(-1, x.work(0));
        Check.due(1, x.count(100));
        Check.due(1, x.count(3));
        Check.due(0, x.move(0, 1, 3));
        Check.due(1, x.aboard(1, 2));
        Check.due(1, x.take(0));
        Check.due(0, x.work(0));
        Check.due(2, x.count(3));
        Edge.of(6, "a box that stays aboard needs no row");
        PortHouse y = new PortHouse(1, 3, 1, 1, 5);
        plain(y, 0, 0, 0);
        plain(y, 0, 0, 1);
        y.plan(0);
        Check.due(1, y.work(0));
        Check.due(-1, y.work(0));
        Check.due(1, y.count(3));
    }

    private static void workRefused() {
        Edge.of(6, "IllegalArgumentException if there is no such bay");
        for (int none : new int[] {-1, 2, FAR_BELOW, FAR_ABOVE}) {
            Edge.thrown(Check.ARGUMENT, MIXED, x -> x.work(none));
        }
        Edge.of(6, "IllegalStateException without a plan");
        Edge.House voided = () -> {
            PortHouse x = mixed();
            x.before(0, 1);
            return x;
        };
        Edge.thrown(Check.STATE, voided, x -> x.work(0));
        Edge.of(6, "IllegalStateException .. with none left");
        Edge.House done = () -> {
            PortHouse x = mixed();
            Check.due(0, x.work(1));
            return x;
        };
        Edge.thrown(Check.STATE, done, x -> x.work(1));
        PortHouse empty = new PortHouse(1, 1, 1, 1, 1);
        Check.thrown(Check.STATE, () -> empty.work(0));
        empty.plan(0);
        Check.thrown(Check.STATE, () -> empty.work(0));
    }

    private static void leastEdges() {
        Edge.of(7, "IllegalArgumentException if there is no such bay");
        for (int none : new int[] {-1, 2, FAR_BELOW, FAR_ABOVE}) {
            Edge.thrown(Check.ARGUMENT, MIXED, x -> x.least(none));
        }
        Edge.term(7, "one for each box of the bay that leaves HERE and is not ASHORE, and one for each other box that"
                + " lies above such a one in its stack");
        PortHouse x = new PortHouse(2, 4, 4, 4, 100);
        Check.due(0, x.least(0));
        plain(x, 0, 0, 1);
        Check.due(0, x.least(0));
        plain(x, 0, 0, 0);
        Check.due(1, x.least(0));
        plain(x, 0, 0, 2);
        Check.due(2, x.least(0));
        plain(x, 0, 1, 3);
        Check.due(2, x.least(0));
        Check.due(0, x.least(1));
        workAll(x, 0);
        Check.due(0, x.least(0));
        PortHouse y = new PortHouse(1, 4, 4, 4, 100);
        plain(y, 0, 0, 0);
        plain(y, 0, 0, 3);
        plain(y, 0, 0, 3);
        plain(y, 0, 1, 3);
        Check.due(3, y.least(0));
        Edge.term(7, "one for each other box that lies above such a one in its stack: not in that of another bay");
        PortHouse z = new PortHouse(2, 4, 4, 4, 100);
        plain(z, 0, 0, 3);
        plain(z, 0, 0, 3);
        plain(z, 1, 0, 0);
        Check.due(0, z.least(0));
        Check.due(1, z.least(1));
    }

    // ---- promise 8

    private static void swapAnswers() {
        Edge.term(8, "each lies where the other one lay");
        PortHouse x = new PortHouse(2, 4, 4, 4, 100);
        plain(x, 0, 0, 2);
        plain(x, 0, 0, 2);
        plain(x, 0, 2, 2);
        Check.due(1, x.swap(0, 1));
        Check.due(1, x.aboard(0, 3));
        Check.due(0, x.aboard(1, 3));
        Check.due(1, x.swap(2, 0));
        Check.due(2, x.aboard(0, 2));
        Check.due(0, x.aboard(0, 3));
        Check.due(0, x.aboard(2, 2));
        Check.due(1, x.aboard(2, 3));
    }

    private static void swapRefused() {
        Edge.of(8, "0 if they are one");
        Edge.answered(0, MIXED, x -> x.swap(0, 0));
        Edge.of(8, "have other ports");
        Edge.answered(0, MIXED, x -> x.swap(0, 3));
        Edge.answered(0, MIXED, x -> x.swap(3, 0));
        Edge.of(8, "one is ASHORE");
        Edge.House ashore = () -> {
            PortHouse x = mixed();
            x.work(1);
            return x;
        };
        Edge.answered(0, ashore, x -> x.swap(0, 4));
        Edge.answered(0, ashore, x -> x.swap(4, 0));
        Edge.of(8, "IllegalArgumentException if there is no such box");
        for (int none : new int[] {-1, 5, FAR_BELOW, FAR_ABOVE}) {
            Edge.thrown(Check.ARGUMENT, MIXED, x -> x.swap(none, 0));
            Edge.thrown(Check.ARGUMENT, MIXED, x -> x.swap(0, none));
            Edge.thrown(Check.ARGUMENT, MIXED, x -> x.swap(none, none));
        }
    }

    private static void swapNeeds() {
        Edge.of(8, "or has needs");
        Edge.House needs = () -> {
            PortHouse x = mixed();
            x.before(0, 1);
            x.plan(0);
            return x;
        };
        for (int box = 0; box < 2; box++) {
            int b = box;
            Edge.answered(0, needs, x -> x.swap(b, 2));
            Edge.answered(0, needs, x -> x.swap(2, b));
            Edge.answered(0, needs, x -> x.swap(b, 4));
        }
        Check.due(1, needs.make().swap(2, 4));
        Edge.term(8, "(also such as are through, the other box being ASHORE)");
        Edge.House through = () -> {
            PortHouse x = new PortHouse(1, 3, 4, 3, 100);
            plain(x, 0, 0, 0);
            plain(x, 0, 1, 0);
            plain(x, 0, 2, 0);
            x.before(0, 1);
            x.plan(0);
            x.work(0);
            return x;
        };
        Check.due(3, through.make().aboard(0, 2));
        Edge.answered(0, through, x -> x.swap(1, 2));
        Edge.answered(0, through, x -> x.swap(2, 1));
    }

    private static void swapFromBayToBay() {
        Edge.term(8, "in stacks of bays (or of one)");
        PortHouse x = mixed();
        Check.due(1, x.swap(0, 4));
        Check.due(1, x.aboard(0, 1));
        Check.due(0, x.aboard(4, 1));
        Check.due(false, x.before(0, 1));
        Check.due(true, x.before(4, 1));
        Check.due(1, x.least(1));
        Edge.of(9, "1: bay (ASHORE: the one it lay in)");
        workAll(x, 1);
        Check.due(1, x.aboard(0, 1));
        Check.due(3, x.aboard(0, 2));
    }

    // ---- promise 9

    private static void aboardEdges() {
        Edge.of(9, "IndexOutOfBoundsException if there is none such");
        for (int none : new int[] {-1, 5, FAR_BELOW, FAR_ABOVE}) {
            Edge.thrown(Check.INDEX, MIXED, x -> x.aboard(none, 0));
        }
        Edge.of(9, "or no such what");
        for (int none : new int[] {-1, 4, FAR_BELOW, FAR_ABOVE}) {
            Edge.thrown(Check.INDEX, MIXED, x -> x.aboard(0, none));
        }
        Edge.of(9, "what 0: port, 1: bay, 2: stack (3 ASHORE), 3: tier (0 the lowest; NONE ASHORE)");
        PortHouse x = mixed();
        x.work(1);
        int[][] due = {{0, 0, 0, 0}, {0, 0, 1, 0}, {0, 0, 2, 0}, {1, 0, 0, 1}, {0, 1, 3, -1}};
        for (int box = 0; box < 5; box++) {
            for (int what = 0; what < 4; what++) {
                Check.due(due[box][what], x.aboard(box, what));
            }
        }
        Edge.of(9, "0: port (0 leaves HERE, 1 .. 5 later)");
        PortHouse y = new PortHouse(2, 3, 4, 3, 100);
        for (int port = 0; port <= 5; port++) {
            Check.due(port, y.aboard(plain(y, port / 3, port % 3, port), 0));
        }
        Check.thrown(Check.INDEX, () -> new PortHouse(1, 1, 1, 1, 1).aboard(0, 0));
    }
}
