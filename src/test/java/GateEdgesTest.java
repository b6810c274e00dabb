/** Boundary cases of promises 20 to 32 and of the terms C, each by the document's words. */
public final class GateEdgesTest {
    private static final int FAR_BELOW = Integer.MIN_VALUE;
    private static final int FAR_ABOVE = Integer.MAX_VALUE;
    private static final int BOND = 1 << 15;
    private static final int[] NO_BOX = {-1, 4, FAR_BELOW, FAR_ABOVE};

    public static void main(String[] args) {
        goodsNoSuchBox();
        goodsKilograms();
        goodsThreeHundred();
        barArguments();
        barAgain();
        liftArguments();
        liftNone();
        liftLatestRight();
        joinEdges();
        joinGroups();
        ruleArguments();
        ruleLimitOfOthers();
        ruleToldLast();
        ruleOneLimit();
        ruleTwoOdd();
        ruleThreeGoods();
        ruleFourAlways();
        releaseNoSuchBox();
        releaseNothingBars();
        releaseOwnBars();
        releaseGroup();
        releaseFailures();
        barsEdges();
        barsInTurn();
        partArguments();
        partMost();
        partReleaseFirst();
        partNotInPort();
        withdrawAnswers();
        gateNoSuchBox();
        gateMayNotGo();
        gateAsks();
        awayNoneSuch();
        awayRight();
        awayMayNotGo();
        noticeEdges();
        noticeSixtyFour();
        noticeKinds();
        noticeOfRefused();
        lookEdges();
        Check.end();
    }

    /** Box 0 (weight 2) stands in row 0, 1 (weight 3) is ashore in no row, 2 is aboard; 3 is of bay 1, aboard. */
    private static PortHouse port() {
        PortHouse x = new PortHouse(2, 4, 3, 4, 100);
        Quay.on(x, 0, 2, 5, 1);
        Quay.loose(x, 0, 3, 5, 1);
        x.box(0, 0, 0, 0, 1, 5, 1);
        x.box(1, 0, 0, 0, 40, 5, 1);
        return x;
    }

    private static final Edge.House PORT = GateEdgesTest::port;

    /** As port(), with the goods of box 1 free. */
    private static PortHouse freed() {
        PortHouse x = port();
        Quay.freed(x, 1);
        return x;
    }

    private static final Edge.House FREED = GateEdgesTest::freed;

    private static PortHouse behind() {
        PortHouse x = freed();
        x.part(1, 3000);
        Check.due(1, x.gate(1));
        return x;
    }

    private static final Edge.House BEHIND = GateEdgesTest::behind;

    private static PortHouse away() {
        PortHouse x = freed();
        Check.due(true, x.away(1, BOND, true));
        return x;
    }

    private static final Edge.House AWAY = GateEdgesTest::away;

    // ---- promise 20

    private static void goodsNoSuchBox() {
        Edge.of(20, "IllegalArgumentException if there is no such box");
        for (int none : NO_BOX) {
            Edge.thrown(Check.ARGUMENT, PORT, x -> x.goods(none, 1));
        }
        Check.due(0, port().goods(0, 1));
        Check.due(0, port().goods(3, 1));
    }

    private static void goodsKilograms() {
        Edge.of(20, "or kilograms are below 1");
        for (int none : new int[] {0, -1, FAR_BELOW}) {
            Edge.thrown(Check.ARGUMENT, PORT, x -> x.goods(0, none));
        }
        Edge.of(20, "or more than is left of its");
        Check.due(0, port().goods(0, 2000));
        Check.due(0, port().goods(3, 40000));
        Edge.thrown(Check.ARGUMENT, PORT, x -> x.goods(0, 2001));
        Edge.thrown(Check.ARGUMENT, PORT, x -> x.goods(3, 40001));
        Edge.thrown(Check.ARGUMENT, PORT, x -> x.goods(3, FAR_ABOVE));
        Edge.House some = () -> {
            PortHouse x = port();
            x.goods(0, 1500);
            return x;
        };
        Check.due(1, some.make().goods(0, 500));
        Edge.thrown(Check.ARGUMENT, some, x -> x.goods(0, 501));
        Edge.House all = () -> {
            PortHouse x = some.make();
            x.goods(0, 500);
            return x;
        };
        Edge.thrown(Check.ARGUMENT, all, x -> x.goods(0, 1));
        Check.due(2, all.make().goods(1, 1));
    }

    private static void goodsThreeHundred() {
        Edge.of(20, "IllegalStateException if there are 300");
        Edge.House nearly = () -> {
            PortHouse x = new PortHouse(1, 4, 1, 1, 1);
            x.box(0, 0, 1, 0, 40, 5, 1);
            x.box(0, 0, 1, 0, 40, 5, 1);
            for (int i = 0; i < 299; i++) {
                x.goods(0, 1);
            }
            return x;
        };
        Check.due(299, nearly.make().goods(0, 1));
        Check.due(299, nearly.make().goods(1, 1));
        Edge.House full = () -> {
            PortHouse x = nearly.make();
            x.goods(0, 1);
            return x;
        };
        Edge.thrown(Check.STATE, full, x -> x.goods(0, 1));
        Edge.thrown(Check.STATE, full, x -> x.goods(1, 1));
        Edge.thrown(Check.STATE, full, x -> x.goods(0, 39700));
        Edge.of(20, "Of several exceptions the one told first is thrown");
        Edge.thrown(Check.ARGUMENT, full, x -> x.goods(0, 39701));
        Edge.thrown(Check.ARGUMENT, full, x -> x.goods(2, 1));
        Edge.thrown(Check.ARGUMENT, full, x -> x.goods(0, 0));
    }

    // ---- promises 21, 22

    private static final Edge.House BARRED = () -> {
        PortHouse x = port();
        x.bar(1, 2, 3, 4);
        return x;
    };

    private static void barArguments() {
        String[] words = {"source", "box", "kind", "right"};
        int[] most = {3, 3, 9, 15};
        for (int i = 0; i < 4; i++) {
            Edge.of(21, "IllegalArgumentException if there is no such .. " + words[i]);
            for (int value : new int[] {0, most[i]}) {
                int[] a = {0, 1, 5, 7};
                a[i] = value;
                Check.due(1, BARRED.make().bar(a[0], a[1], a[2], a[3]));
            }
            for (int value : new int[] {-1, most[i] + 1, FAR_BELOW, FAR_ABOVE}) {
                int[] a = {1, 2, 3, 4};
                a[i] = value;
                Edge.thrown(Check.ARGUMENT, BARRED, x -> x.bar(a[0], a[1], a[2], a[3]));
            }
        }
    }

    private static void barAgain() {
        Edge.term(21, "Of one source and kind a box has one at most: told again it has the latest RIGHT, and one COUNT"
                + " more");
        PortHouse x = port();
        for (int n = 1; n <= 5; n++) {
            Check.due(n, x.bar(2, 0, 9, n));
            Check.due(1, x.look(0, 2));
        }
        Check.due(1, x.count(9));
        Check.due(1, x.bar(2, 0, 8, 0));
        Check.due(1, x.bar(3, 0, 9, 0));
        Check.due(1, x.bar(2, 1, 9, 0));
        Check.due(3, x.look(0, 2));
        Check.due(1, x.look(1, 2));
    }

    private static void liftArguments() {
        String[] words = {"source, box or kind", "source, box or kind", "source, box or kind", "rights can't be"};
        int[] least = {-1, -1, -1, -1};
        int[] most = {4, 4, 10, 65536};
        for (int i = 0; i < 4; i++) {
            Edge.of(22, "IllegalArgumentException if there is no such source, box or kind, or " + words[i]);
            for (int value : new int[] {least[i], most[i], FAR_BELOW, FAR_ABOVE}) {
                int[] a = {1, 2, 3, 1 << 4};
                a[i] = value;
                Edge.thrown(Check.ARGUMENT, BARRED, x -> x.lift(a[0], a[1], a[2], a[3]));
            }
        }
        Edge.of(22, "RIGHTS 0 .. 15 (as bits of 0 .. 65535 for who asks)");
        Check.due(0, BARRED.make().lift(1, 2, 3, 65535));
        Edge.answered(-1, BARRED, x -> x.lift(1, 2, 3, 0));
        for (int right : new int[] {0, 15}) {
            Edge.House one = () -> {
                PortHouse x = port();
                x.bar(0, 0, 0, right);
                return x;
            };
            Check.due(0, one.make().lift(0, 0, 0, 1 << right));
            Edge.answered(-1, one, x -> x.lift(0, 0, 0, 65535 - (1 << right)));
        }
    }

    private static void liftNone() {
        Edge.of(22, "NONE if there is none such");
        Edge.answered(-1, BARRED, x -> x.lift(0, 2, 3, 65535));
        Edge.answered(-1, BARRED, x -> x.lift(2, 2, 3, 65535));
        Edge.answered(-1, BARRED, x -> x.lift(1, 1, 3, 65535));
        Edge.answered(-1, BARRED, x -> x.lift(1, 2, 4, 65535));
        Edge.answered(-1, () -> {
            PortHouse x = BARRED.make();
            x.lift(1, 2, 3, 1 << 4);
            return x;
        }, x -> x.lift(1, 2, 3, 65535));
        Edge.of(22, "or the right is not among them");
        Edge.answered(-1, BARRED, x -> x.lift(1, 2, 3, 1 << 3));
        Edge.answered(-1, BARRED, x -> x.lift(1, 2, 3, 65535 - (1 << 4)));
    }

    private static void liftLatestRight() {
        Edge.term(22, "it is lifted as often as it was told (COUNT), by who has its RIGHT then");
        PortHouse x = port();
        x.bar(0, 0, 0, 1);
        x.bar(0, 0, 0, 2);
        x.bar(0, 0, 0, 3);
        Check.due(-1, x.lift(0, 0, 0, 1 << 1 | 1 << 2));
        Check.due(2, x.lift(0, 0, 0, 1 << 3));
        Check.due(1, x.lift(0, 0, 0, 1 << 3));
        Check.due(2, x.bar(0, 0, 0, 5));
        Check.due(-1, x.lift(0, 0, 0, 1 << 3));
        Check.due(1, x.lift(0, 0, 0, 1 << 5));
        Check.due(1, x.look(0, 2));
        Check.due(0, x.lift(0, 0, 0, 1 << 5));
        Check.due(-1, x.lift(0, 0, 0, 1 << 5));
        Check.due(1, x.bar(0, 0, 0, 6));
        Check.due(0, x.lift(0, 0, 0, 1 << 6));
    }

    // ---- promise 23

    private static void joinEdges() {
        Edge.of(23, "IllegalArgumentException if there are none such");
        for (int none : NO_BOX) {
            Edge.thrown(Check.ARGUMENT, PORT, x -> x.join(none, 0));
            Edge.thrown(Check.ARGUMENT, PORT, x -> x.join(0, none));
        }
        Edge.of(23, "or they are the same");
        for (int box = 0; box < 4; box++) {
            int b = box;
            Edge.thrown(Check.ARGUMENT, PORT, x -> x.join(b, b));
        }
    }

    private static void joinGroups() {
        Edge.of(23, "0 if they are in one group");
        Edge.House pair = () -> {
            PortHouse x = port();
            Check.due(1, x.join(3, 1));
            return x;
        };
        Edge.answered(0, pair, x -> x.join(3, 1));
        Edge.answered(0, pair, x -> x.join(1, 3));
        Edge.House three = () -> {
            PortHouse x = pair.make();
            Check.due(1, x.join(2, 3));
            return x;
        };
        Edge.answered(0, three, x -> x.join(1, 2));
        Edge.of(32, "4: the least box of its group, 5: boxes of its group");
        PortHouse x = three.make();
        int[][] due = {{0, 1}, {1, 3}, {1, 3}, {1, 3}};
        for (int box = 0; box < 4; box++) {
            Check.due(due[box][0], x.look(box, 4));
            Check.due(due[box][1], x.look(box, 5));
        }
        Check.due(1, x.join(2, 0));
        for (int box = 0; box < 4; box++) {
            Check.due(0, x.look(box, 4));
            Check.due(4, x.look(box, 5));
        }
        int later = x.box(1, 1, 0, 0, 1, 0, 1);
        Check.due(later, x.look(later, 4));
        Check.due(1, x.look(later, 5));
    }

    // ---- promise 24

    private static final Edge.House RULED = () -> {
        PortHouse x = freed();
        Check.due(true, x.rule(0, 1, 2999));
        return x;
    };

    private static void ruleArguments() {
        Edge.of(24, "false if there is no such source or rule");
        for (int none : new int[] {-1, 4, FAR_BELOW, FAR_ABOVE}) {
            Edge.refused(RULED, x -> x.rule(none, 4, 0));
        }
        for (int none : new int[] {-1, 5, FAR_BELOW, FAR_ABOVE}) {
            Edge.refused(RULED, x -> x.rule(0, none, 0));
        }
        for (int source = 0; source < 4; source++) {
            PortHouse x = freed();
            Check.due(true, x.rule(source, 4, 0));
            Check.due(114 + 100 * source, x.bars(1, 0));
        }
        Edge.of(24, "or limit");
        for (int none : new int[] {-1, 40001, FAR_BELOW, FAR_ABOVE}) {
            Edge.refused(RULED, x -> x.rule(0, 1, none));
        }
        Check.due(true, RULED.make().rule(0, 1, 0));
        Check.due(true, RULED.make().rule(0, 1, 40000));
    }

    private static void ruleLimitOfOthers() {
        Edge.of(24, "limit 0 .. 40000 for 1, not looked at for others");
        for (int does : new int[] {0, 2, 3, 4}) {
            for (int limit : new int[] {-1, 40001, FAR_BELOW, FAR_ABOVE}) {
                Check.due(true, freed().rule(0, does, limit));
            }
        }
    }

    private static void ruleToldLast() {
        Edge.term(24, "A RULE of a source (the one told last; none: nothing is barred)");
        PortHouse x = freed();
        Check.due(1, x.release(1));
        x.rule(0, 4, 0);
        Check.due(0, x.release(1));
        x.rule(0, 2, 0);
        Check.due(113, x.bars(1, 0));
        x.rule(0, 0, 0);
        Check.due(1, x.release(1));
        x.rule(0, 1, 2999);
        Check.due(0, x.release(1));
        x.rule(0, 1, 3000);
        Check.due(1, x.release(1));
    }

    private static void ruleOneLimit() {
        Edge.term(24, "1 KILOGRAMS above a limit bar");
        for (int limit : new int[] {0, 2999, 3000, 3001, 40000}) {
            PortHouse x = freed();
            x.rule(2, 1, limit);
            Check.due(limit >= 3000 ? 1 : 0, x.release(1));
            Check.due(limit >= 3000 ? -1 : 313, x.bars(1, 0));
        }
        PortHouse most = port();
        most.rule(0, 1, 40000);
        Check.due(10, most.bars(3, 0));
        Check.due(-1, most.bars(3, 1));
        most.rule(0, 1, 39999);
        Check.due(113, most.bars(3, 1));
    }

    private static void ruleTwoOdd() {
        Edge.term(24, "2 a box with an odd number is barred");
        PortHouse x = port();
        x.rule(3, 2, 0);
        for (int box = 0; box < 4; box++) {
            Check.due(10, x.bars(box, 0));
            Check.due(box % 2 == 1 ? 413 : -1, x.bars(box, 1));
        }
    }

    private static void ruleThreeGoods() {
        Edge.term(24, "3 fails for boxes with goods");
        PortHouse x = freed();
        x.rule(1, 3, 0);
        Check.due(214, x.bars(1, 0));
        Check.due(10, x.bars(0, 0));
        Check.due(-1, x.bars(0, 1));
        Check.due(0, x.release(0));
        Check.due(0, x.count(12));
        Check.due(0, x.release(1));
        Check.due(1, x.count(12));
    }

    private static void ruleFourAlways() {
        Edge.term(24, "4 fails always");
        PortHouse x = freed();
        x.rule(3, 4, 0);
        Check.due(414, x.bars(0, 1));
        Check.due(414, x.bars(1, 0));
        Check.due(0, x.release(0));
        Check.due(0, x.release(1));
        Check.due(2, x.count(14));
        Edge.term(24, "0 never bars");
        x.rule(3, 0, 0);
        Check.due(-1, x.bars(1, 0));
        Check.due(1, x.release(1));
        Check.due(2, x.count(14));
    }

    // ---- promises 25, 26

    private static void releaseNoSuchBox() {
        Edge.of(25, "IllegalArgumentException if there is no such box");
        for (int none : NO_BOX) {
            Edge.thrown(Check.ARGUMENT, RULED, x -> x.release(none));
        }
        Edge.thrown(Check.ARGUMENT, () -> new PortHouse(1, 1, 1, 1, 1), x -> x.release(0));
    }

    private static void releaseNothingBars() {
        Edge.term(25, "RELEASE is 1 just if nothing bars");
        Edge.answered(1, FREED, x -> x.release(1));
        PortHouse x = freed();
        x.bar(3, 1, 9, 0);
        Check.due(0, x.release(1));
        x.bar(3, 1, 9, 0);
        Check.due(1, x.lift(3, 1, 9, 1));
        Check.due(0, x.release(1));
        Check.due(0, x.lift(3, 1, 9, 1));
        Check.due(1, x.release(1));
        x.rule(0, 2, 0);
        Check.due(0, x.release(1));
    }

    private static void releaseOwnBars() {
        Edge.term(25, "A box without goods has the OWN BAR 10, one with goods that are not FREE the OWN BAR 11");
        PortHouse x = port();
        Check.due(10, x.bars(1, 0));
        Check.due(0, x.release(1));
        int first = x.goods(1, 1000);
        int second = x.goods(1, 1000);
        Check.due(11, x.bars(1, 0));
        x.assess(x.declare(first, 0, 0, 123456, 0, 0, 0), 0);
        Check.due(11, x.bars(1, 0));
        Check.due(0, x.release(1));
        int later = x.declare(second, 0, 0, 123456, 0, 0, 0);
        Check.due(11, x.bars(1, 0));
        x.assess(later, 0);
        Check.due(-1, x.bars(1, 0));
        Check.due(1, x.release(1));
        x.goods(1, 1000);
        Check.due(11, x.bars(1, 0));
        Check.due(0, x.release(1));
    }

    private static void releaseGroup() {
        Edge.term(25, "what bars one of a group bars all of it");
        PortHouse x = freed();
        Quay.freed(x, 0);
        x.join(0, 1);
        Check.due(1, x.release(0));
        x.bar(0, 1, 0, 0);
        Check.due(0, x.release(0));
        Check.due(0, x.release(1));
        x.lift(0, 1, 0, 1);
        Check.due(1, x.release(0));
        x.rule(0, 2, 0);
        Check.due(0, x.release(0));
        x.rule(0, 0, 0);
        x.join(1, 2);
        Check.due(0, x.release(0));
    }

    private static void releaseFailures() {
        Edge.term(25, "RULES are asked by each RELEASE, of all boxes of the group");
        PortHouse x = freed();
        x.join(0, 1);
        x.join(1, 3);
        x.rule(0, 4, 0);
        x.rule(2, 4, 0);
        x.rule(3, 3, 0);
        Check.due(0, x.release(3));
        Check.due(3, x.count(11));
        Check.due(0, x.count(12));
        Check.due(3, x.count(13));
        Check.due(1, x.count(14));
        Check.due(0, x.release(2));
        Check.due(4, x.count(11));
        Check.due(1, x.count(14));
        Edge.term(26, "when BARS are told they are asked as well, but failures are not counted");
        for (int i = 0; x.bars(0, i) != -1; i++) {
            Check.due(4, x.count(11));
        }
        Check.due(4, x.count(11));
        Check.due(4, x.count(13));
    }

    private static void barsEdges() {
        Edge.of(26, "IllegalArgumentException if there is no such box");
        for (int none : NO_BOX) {
            Edge.thrown(Check.ARGUMENT, RULED, x -> x.bars(none, 0));
        }
        Edge.of(26, "the i-th (0 the first) .. NONE without");
        for (int none : new int[] {-1, 1, 2, FAR_BELOW, FAR_ABOVE}) {
            Edge.answered(-1, PORT, x -> x.bars(0, none));
        }
        Edge.answered(10, PORT, x -> x.bars(0, 0));
        Edge.answered(-1, FREED, x -> x.bars(1, 0));
    }

    private static void barsInTurn() {
        Edge.of(26, "of each box of its group by numbers: OWN BAR as 10 or 11, then of each source in turn its bars by"
                + " kinds as 100 + 100 * source + kind, and its rule as 100 + 100 * source + 13 or 14");
        PortHouse x = freed();
        x.goods(0, 1);
        x.join(1, 0);
        x.bar(3, 0, 9, 0);
        x.bar(0, 0, 9, 0);
        x.bar(0, 0, 0, 0);
        x.bar(0, 0, 0, 0);
        x.bar(2, 1, 5, 0);
        x.rule(0, 2, 0);
        x.rule(3, 3, 0);
        int[] due = {11, 100, 109, 409, 414, 113, 305, 414, -1};
        for (int box = 0; box < 2; box++) {
            for (int i = 0; i < due.length; i++) {
                Check.due(due[i], x.bars(box, i));
            }
        }
    }

    // ---- promises 27, 28

    private static void partArguments() {
        Edge.of(27, "IllegalArgumentException if there is no such box");
        for (int none : NO_BOX) {
            Edge.thrown(Check.ARGUMENT, FREED, x -> x.part(none, 1));
        }
        Edge.of(27, "or kilograms are below 1");
        for (int none : new int[] {0, -1, FAR_BELOW}) {
            Edge.thrown(Check.ARGUMENT, FREED, x -> x.part(1, none));
        }
        Check.due(1, freed().part(1, 1));
        Edge.of(27, "What throws .. changes nothing: no RELEASE is asked");
        PortHouse x = freed();
        x.rule(0, 4, 0);
        Check.thrown(Check.ARGUMENT, () -> x.part(1, 0));
        Check.due(0, x.count(11));
    }

    private static void partMost() {
        Edge.of(27, "or that would be more than its KILOGRAMS");
        Check.due(3000, freed().part(1, 3000));
        Edge.answered(-1, FREED, x -> x.part(1, 3001));
        Edge.answered(-1, FREED, x -> x.part(1, FAR_ABOVE));
        Edge.House some = () -> {
            PortHouse x = freed();
            Check.due(2999, x.part(1, 2999));
            return x;
        };
        Check.due(3000, some.make().part(1, 1));
        Edge.answered(-1, some, x -> x.part(1, 2));
        Edge.answered(-1, some, x -> x.part(1, FAR_ABOVE));
        Edge.answered(-1, () -> {
            PortHouse x = some.make();
            x.part(1, 1);
            return x;
        }, x -> x.part(1, 1));
    }

    private static void partReleaseFirst() {
        Edge.of(27, "NONE if RELEASE is 0 (asked first)");
        Edge.answered(-1, PORT, x -> x.part(1, 1));
        PortHouse x = freed();
        x.rule(1, 4, 0);
        Check.due(-1, x.part(1, 1));
        Check.due(1, x.count(12));
        Check.due(-1, x.part(1, 3001));
        Check.due(2, x.count(12));
        x.away(1, BOND, true);
        Check.due(-1, x.part(1, 1));
        Check.due(3, x.count(12));
        Check.due(0, x.look(1, 1));
    }

    private static void partNotInPort() {
        Edge.of(27, "it is not in the port");
        Edge.answered(-1, AWAY, x -> x.part(1, 1));
        Edge.answered(-1, BEHIND, x -> x.part(1, 1));
        PortHouse back = away();
        back.away(1, BOND, false);
        Check.due(1, back.part(1, 1));
    }

    private static void withdrawAnswers() {
        Edge.of(28, "IllegalArgumentException if there is no such box");
        for (int none : NO_BOX) {
            Edge.thrown(Check.ARGUMENT, FREED, x -> x.withdraw(none));
        }
        Edge.term(28, "2 if nothing was released (no NOTICE)");
        Edge.answered(2, FREED, x -> x.withdraw(1));
        Edge.answered(2, AWAY, x -> x.withdraw(1));
        Edge.term(28, "WITHDRAWN is all that is RELEASED of a box (0 then): told as 1");
        PortHouse x = freed();
        x.part(1, 1);
        int notices = x.count(9);
        Check.due(1, x.withdraw(1));
        Check.due(0, x.look(1, 1));
        Check.due(notices + 1, x.count(9));
        Check.due(2, x.withdraw(1));
        Check.due(notices + 1, x.count(9));
        Edge.term(28, "(also of one that is AWAY)");
        x.part(1, 3000);
        x.away(1, BOND, true);
        Check.due(1, x.withdraw(1));
        Check.due(0, x.look(1, 1));
        Check.due(2, x.withdraw(1));
        Edge.term(28, "0 if it is BEHIND already (a NOTICE all the same, RELEASED stays)");
        PortHouse y = behind();
        int told = y.count(9);
        Check.due(0, y.withdraw(1));
        Check.due(3000, y.look(1, 1));
        Check.due(told + 1, y.count(9));
        Check.due(0, y.withdraw(1));
        Check.due(told + 2, y.count(9));
        Check.due(1, y.look(1, 0));
    }

    // ---- promises 29, 30

    private static void gateNoSuchBox() {
        Edge.of(29, "IllegalArgumentException if there is no such box");
        for (int none : NO_BOX) {
            Edge.thrown(Check.ARGUMENT, FREED, x -> x.gate(none));
        }
    }

    private static void gateMayNotGo() {
        Edge.of(29, "0 if it may not go: all of its KILOGRAMS are not RELEASED");
        Edge.answered(0, FREED, x -> x.gate(1));
        Edge.House nearly = () -> {
            PortHouse x = freed();
            x.part(1, 2999);
            return x;
        };
        Edge.answered(0, nearly, x -> x.gate(1));
        PortHouse all = nearly.make();
        all.part(1, 1);
        Check.due(1, all.gate(1));
        Check.due(1, all.look(1, 0));
        Check.due(1, all.count(10));
        Edge.of(29, "0 if it may not go: its RELEASE is 0");
        Edge.answered(0, () -> {
            PortHouse x = nearly.make();
            x.part(1, 1);
            x.bar(0, 1, 0, 0);
            return x;
        }, x -> x.gate(1));
        Edge.of(29, "0 if it may not go: it is BEHIND, or AWAY");
        Edge.answered(0, BEHIND, x -> x.gate(1));
        Edge.answered(0, () -> {
            PortHouse x = freed();
            x.part(1, 3000);
            x.away(1, BOND, true);
            return x;
        }, x -> x.gate(1));
        Edge.of(29, "0 if it may not go: it stands in a row, or is not ASHORE");
        Edge.answered(0, () -> {
            PortHouse x = freed();
            x.part(1, 3000);
            x.put(1, 1);
            return x;
        }, x -> x.gate(1));
        Edge.answered(0, () -> {
            PortHouse x = port();
            Quay.freed(x, 2);
            x.part(2, 1000);
            return x;
        }, x -> x.gate(2));
    }

    private static void gateAsks() {
        Edge.of(29, "(RELEASE is asked only if it is in the port, ASHORE, and stands in no row)");
        PortHouse x = freed();
        x.rule(2, 4, 0);
        Check.due(0, x.gate(0));
        Check.due(0, x.gate(2));
        Check.due(0, x.count(13));
        Check.due(0, x.gate(1));
        Check.due(1, x.count(13));
        x.away(1, BOND, true);
        Check.due(0, x.gate(1));
        Check.due(1, x.count(13));
        PortHouse y = behind();
        y.rule(2, 4, 0);
        Check.due(0, y.gate(1));
        Check.due(0, y.count(13));
    }

    private static void awayNoneSuch() {
        Edge.of(30, "false if there is none such");
        for (int none : NO_BOX) {
            Edge.refused(AWAY, x -> x.away(none, BOND, true));
            Edge.refused(AWAY, x -> x.away(none, BOND, false));
        }
    }

    private static void awayRight() {
        Edge.of(30, "the right 15 is not among these (of any number its bit alone is looked at)");
        for (int rights : new int[] {0, BOND - 1, BOND << 1, FAR_BELOW, ~BOND}) {
            Edge.refused(FREED, x -> x.away(1, rights, true));
            Edge.refused(AWAY, x -> x.away(1, rights, false));
        }
        for (int rights : new int[] {BOND, 65535, -1, FAR_ABOVE, BOND | FAR_BELOW}) {
            Check.due(true, freed().away(1, rights, true));
            Check.due(true, away().away(1, rights, false));
        }
    }

    private static void awayMayNotGo() {
        Edge.of(30, "or it may not go: it stands in a row, is aboard, AWAY or BEHIND");
        Edge.refused(PORT, x -> x.away(0, BOND, true));
        Edge.refused(PORT, x -> x.away(2, BOND, true));
        Edge.refused(AWAY, x -> x.away(1, BOND, true));
        Edge.refused(BEHIND, x -> x.away(1, BOND, true));
        Edge.of(30, "(or is not AWAY)");
        Edge.refused(FREED, x -> x.away(1, BOND, false));
        Edge.refused(PORT, x -> x.away(0, BOND, false));
        Edge.refused(PORT, x -> x.away(2, BOND, false));
        Edge.refused(BEHIND, x -> x.away(1, BOND, false));
        Edge.term(30, "AWAY: under bond, with the right 15, whatever bars it");
        PortHouse x = port();
        x.bar(0, 1, 0, 0);
        x.rule(0, 4, 0);
        Check.due(true, x.away(1, BOND, true));
        Check.due(2, x.look(1, 0));
        Check.due(0, x.count(11));
        Check.due(true, x.away(1, BOND, false));
        Check.due(0, x.look(1, 0));
    }

    // ---- promises 31, 32

    private static void noticeEdges() {
        Edge.of(31, "The i-th NOTICE that is kept, the oldest first; NONE without");
        Edge.answered(-1, () -> new PortHouse(1, 1, 1, 1, 1), x -> x.notice(0));
        Edge.House two = () -> {
            PortHouse x = port();
            x.bar(0, 3, 0, 0);
            x.bar(0, 1, 0, 0);
            return x;
        };
        Edge.answered(30, two, x -> x.notice(0));
        Edge.answered(10, two, x -> x.notice(1));
        for (int none : new int[] {-1, 2, 64, FAR_BELOW, FAR_ABOVE}) {
            Edge.answered(-1, two, x -> x.notice(none));
        }
    }

    private static void noticeSixtyFour() {
        Edge.term(31, "the latest 64 are kept");
        for (int n = 62; n <= 130; n++) {
            PortHouse x = port();
            for (int i = 0; i < n; i++) {
                if (i % 2 == 0) {
                    x.bar(0, i % 3, 0, 0);
                } else {
                    x.lift(0, (i - 1) % 3, 0, 1);
                }
            }
            Check.due(n, x.count(9));
            int kept = Math.min(n, 64);
            for (int i = 0; i < kept; i++) {
                int which = n - kept + i;
                Check.due(which % 2 == 0 ? which % 3 * 10 : (which - 1) % 3 * 10 + 1, x.notice(i));
            }
            Check.due(-1, x.notice(kept));
            Check.due(-1, x.notice(-1));
        }
    }

    private static void noticeKinds() {
        Edge.term(31, "10 * box and 0 a bar begins, 1 ends, 2 part, 3 gate, 4 withdrawn, 5 withdrawn behind");
        PortHouse x = freed();
        x.bar(0, 1, 0, 0);
        x.bar(0, 1, 0, 0);
        x.lift(0, 1, 0, 1);
        x.lift(0, 1, 0, 1);
        x.part(1, 1000);
        x.withdraw(1);
        x.part(1, 3000);
        x.gate(1);
        x.withdraw(1);
        int[] due = {10, 11, 12, 14, 12, 13, 15, -1};
        for (int i = 0; i < due.length; i++) {
            Check.due(due[i], x.notice(i));
        }
        Check.due(7, x.count(9));
    }

    private static void noticeOfRefused() {
        Edge.term(31, "NOTICES: of each bar that begins (first COUNT) or ends (last lifted): none of what is refused");
        PortHouse x = freed();
        x.lift(0, 1, 0, 65535);
        x.part(0, 1);
        x.part(1, 3001);
        x.gate(1);
        x.withdraw(1);
        x.away(1, BOND, true);
        x.away(1, BOND, false);
        x.join(0, 1);
        x.rule(0, 4, 0);
        x.release(1);
        Check.due(0, x.count(9));
        Check.due(-1, x.notice(0));
    }

    private static void lookEdges() {
        Edge.of(32, "IndexOutOfBoundsException if there is no such box or what");
        for (int none : NO_BOX) {
            Edge.thrown(Check.INDEX, FREED, x -> x.look(none, 0));
        }
        for (int none : new int[] {-1, 6, FAR_BELOW, FAR_ABOVE}) {
            Edge.thrown(Check.INDEX, FREED, x -> x.look(1, none));
        }
        Edge.of(32, "0: 0 in the port, 1 BEHIND, 2 AWAY");
        Check.due(0, freed().look(1, 0));
        Check.due(1, behind().look(1, 0));
        Check.due(2, away().look(1, 0));
        Edge.of(32, "1: RELEASED");
        Check.due(0, freed().look(1, 1));
        Check.due(3000, behind().look(1, 1));
        Edge.of(32, "2: bars of its own that were told (each source and kind once; no OWN BAR, no rule's)");
        PortHouse x = port();
        x.join(0, 1);
        x.bar(0, 1, 0, 0);
        x.rule(0, 4, 0);
        Check.due(0, x.look(0, 2));
        Check.due(1, x.look(1, 2));
        for (int source = 0; source < 4; source++) {
            for (int kind = 0; kind < 10; kind++) {
                x.bar(source, 0, kind, 0);
            }
        }
        Check.due(40, x.look(0, 2));
        Edge.of(32, "3: goods");
        Check.due(0, x.look(0, 3));
        x.goods(0, 1);
        x.goods(0, 1);
        Check.due(2, x.look(0, 3));
        Check.due(0, x.look(1, 3));
    }
}
