/** Boundary cases of promises 10 to 19 and of the terms B, each by the document's words. */
public final class YardEdgesTest {
    private static final int FAR_BELOW = Integer.MIN_VALUE;
    private static final int FAR_ABOVE = Integer.MAX_VALUE;
    private static final int BOND = 1 << 15;

    public static void main(String[] args) {
        groundEdges();
        groundBoxesStand();
        reserveEdges();
        reserveOtherShip();
        putNoneSuch();
        ruleNine();
        ruleOne();
        ruleTwo();
        ruleThree();
        ruleFour();
        ruleFive();
        ruleSix();
        ruleSeven();
        ruleEight();
        firstRule();
        takeEdges();
        shiftEdges();
        shiftRules();
        chooseEdges();
        chooseNone();
        scoreEmptyAndSooner();
        scoreShip();
        scoreLighter();
        scoreReserved();
        scoreTie();
        nightEdges();
        nightSoMany();
        nightMost();
        nightOwnRow();
        nightSameDay();
        undoNone();
        undoHundred();
        undoOnceMore();
        undoAway();
        undoBehind();
        undoWhatever();
        undoPutByWork();
        whereEdges();
        inTheWay();
        atEdges();
        Check.end();
    }

    private static int loose(PortHouse x, int sort, int weight) {
        return Quay.loose(x, sort, weight, 5, 1);
    }

    /** Rows 0 .. 2, two high, that bear 40: box 0 (weight 20, ship 1) below 1 (18, ship 2) on row 0, 2 in no row. */
    private static PortHouse yard() {
        PortHouse x = new PortHouse(2, 4, 3, 2, 40);
        Quay.on(x, 0, 20, 5, 1);
        Quay.on(x, 0, 18, 9, 2);
        Quay.loose(x, 0, 2, 5, 1);
        plainAboard(x);
        return x;
    }

    private static int plainAboard(PortHouse x) {
        return x.box(1, 0, 0, 0, 10, 5, 1);
    }

    private static final Edge.House YARD = YardEdgesTest::yard;

    // ---- promises 10, 11

    private static void groundEdges() {
        Edge.of(10, "false if there is no such row or ground");
        for (int none : new int[] {-1, 3, FAR_BELOW, FAR_ABOVE}) {
            Edge.refused(YARD, x -> x.ground(none, 1));
            Edge.refused(YARD, x -> x.ground(1, none));
        }
        PortHouse x = yard();
        for (int kind = 0; kind <= 2; kind++) {
            Check.due(true, x.ground(2, kind));
            Check.due(kind, x.count(402));
            Check.due(true, x.ground(2, kind));
        }
        Edge.term(10, "Each has a GROUND: PLAIN at first");
        Check.due(0, x.count(401));
    }

    private static void groundBoxesStand() {
        Edge.of(10, "or boxes stand there");
        for (int kind = 0; kind <= 2; kind++) {
            int k = kind;
            Edge.refused(YARD, x -> x.ground(0, k));
        }
        PortHouse x = yard();
        x.take(1);
        Check.due(false, x.ground(0, 2));
        x.take(0);
        Check.due(true, x.ground(0, 2));
        Check.due(2, x.count(400));
    }

    private static void reserveEdges() {
        Edge.of(11, "false if there is no such row or ship");
        for (int none : new int[] {-1, 3, FAR_BELOW, FAR_ABOVE}) {
            Edge.refused(YARD, x -> x.reserve(none, 1));
            Edge.refused(YARD, x -> x.reserve(none, 0));
        }
        for (int none : new int[] {-1, 10, FAR_BELOW, FAR_ABOVE}) {
            Edge.refused(YARD, x -> x.reserve(1, none));
        }
        PortHouse x = yard();
        for (int ship : new int[] {1, 9, 0}) {
            Check.due(true, x.reserve(2, ship));
            Check.due(ship, x.count(502));
        }
    }

    private static void reserveOtherShip() {
        Edge.of(11, "or a box of another ship stands there");
        for (int ship = 1; ship <= 3; ship++) {
            int s = ship;
            Edge.refused(YARD, x -> x.reserve(0, s));
        }
        PortHouse x = yard();
        x.take(1);
        Check.due(false, x.reserve(0, 2));
        Check.due(true, x.reserve(0, 1));
        Edge.of(11, "(for 0: never false for that)");
        Check.due(true, yard().reserve(0, 0));
        PortHouse y = yard();
        y.take(1);
        y.reserve(0, 1);
        y.undo();
        Check.due(1, y.count(500));
        Check.due(false, y.reserve(0, 1));
        Check.due(true, y.reserve(0, 0));
        Check.due(0, y.count(500));
    }

    // ---- promise 12

    private static void putNoneSuch() {
        Edge.of(12, "IndexOutOfBoundsException if there is no such box or row");
        for (int none : new int[] {-1, 4, FAR_BELOW, FAR_ABOVE}) {
            Edge.thrown(Check.INDEX, YARD, x -> x.put(none, 1));
        }
        for (int none : new int[] {-1, 3, FAR_BELOW, FAR_ABOVE}) {
            Edge.thrown(Check.INDEX, YARD, x -> x.put(2, none));
        }
        Check.due(1, yard().put(2, 1));
        Check.due(1, yard().put(2, 2));
    }

    private static void ruleNine() {
        Edge.term(12, "9 it is not ASHORE");
        Edge.answered(-9, YARD, x -> x.put(3, 1));
        Edge.term(12, "9 .. or AWAY (C)");
        Edge.House away = () -> {
            PortHouse x = yard();
            x.away(2, BOND, true);
            return x;
        };
        Edge.answered(-9, away, x -> x.put(2, 1));
        PortHouse back = away.make();
        back.away(2, BOND, false);
        Check.due(1, back.put(2, 1));
        Edge.term(12, "9 .. or BEHIND the gate");
        Edge.answered(-9, YardEdgesTest::behind, x -> x.put(2, 1));
    }

    private static PortHouse behind() {
        PortHouse x = yard();
        Quay.freed(x, 2);
        x.part(2, 2000);
        Check.due(1, x.gate(2));
        return x;
    }

    private static void ruleOne() {
        Edge.term(12, "1 it stands in the yard already");
        for (int row = 0; row < 3; row++) {
            int r = row;
            Edge.answered(-1, YARD, x -> x.put(0, r));
            Edge.answered(-1, YARD, x -> x.put(1, r));
        }
        Edge.term(12, "1 .. (for a shift: on that row)");
        Edge.answered(-1, YARD, x -> x.shift(1, 0));
        Check.due(1, yard().shift(1, 1));
    }

    private static void ruleTwo() {
        Edge.term(12, "2 the row is RESERVED for another ship");
        Edge.House reserved = () -> {
            PortHouse x = yard();
            x.reserve(1, 1);
            x.reserve(2, 2);
            return x;
        };
        Check.due(1, reserved.make().put(2, 1));
        Edge.answered(-2, reserved, x -> x.put(2, 2));
        Edge.answered(-2, reserved, x -> x.shift(1, 1));
        Check.due(1, reserved.make().shift(1, 2));
    }

    private static void ruleThree() {
        Edge.term(12, "3 it is full");
        for (int high = 1; high <= 8; high++) {
            int most = high;
            Edge.House nearly = () -> {
                PortHouse x = new PortHouse(1, 4, 2, most, 400);
                for (int i = 1; i < most; i++) {
                    Quay.on(x, 1, 10, 5, 1);
                }
                Quay.loose(x, 0, 10, 5, 1);
                return x;
            };
            Check.due(1, nearly.make().put(most - 1, 1));
            Edge.answered(-3, () -> {
                PortHouse x = nearly.make();
                x.put(most - 1, 1);
                Quay.loose(x, 0, 10, 5, 1);
                return x;
            }, x -> x.put(most, 1));
        }
    }

    private static void ruleFour() {
        Edge.term(12, "4 its boxes and this one weigh more than the ground bears");
        Edge.House house = () -> {
            PortHouse x = new PortHouse(1, 4, 2, 4, 40);
            Quay.on(x, 1, 20, 5, 1);
            Quay.on(x, 1, 15, 5, 1);
            Quay.loose(x, 0, 5, 5, 1);
            Quay.loose(x, 0, 6, 5, 1);
            return x;
        };
        Check.due(1, house.make().put(2, 1));
        Edge.answered(-4, house, x -> x.put(3, 1));
        Edge.term(12, "4 .. of an empty row this one alone");
        Edge.House one = () -> {
            PortHouse x = new PortHouse(1, 4, 1, 4, 10);
            Quay.loose(x, 0, 10, 5, 1);
            return x;
        };
        Check.due(1, one.make().put(0, 0));
        PortHouse two = new PortHouse(1, 4, 1, 4, 10);
        two.box(0, 0, 0, 0, 11, 5, 1);
        two.plan(0);
        Check.due(-1, two.work(0));
    }

    private static void ruleFive() {
        Edge.term(12, "5 a box there has another size");
        for (int size = 1; size <= 3; size++) {
            for (int other = 1; other <= 3; other++) {
                int below = size - 1;
                int above = other - 1;
                Edge.House house = () -> {
                    PortHouse x = new PortHouse(1, 4, 2, 4, 400);
                    x.put(Quay.loose(x, below, 20, 5, 1), 1);
                    Quay.loose(x, above, 10, 5, 1);
                    return x;
                };
                if (below == above) {
                    Check.due(1, house.make().put(1, 1));
                } else {
                    Edge.answered(-5, house, x -> x.put(1, 1));
                }
            }
        }
    }

    private static void ruleSix() {
        Edge.term(12, "6 it weighs more than the one below it");
        Edge.House house = () -> {
            PortHouse x = new PortHouse(1, 4, 2, 4, 400);
            Quay.on(x, 1, 20, 5, 1);
            Quay.on(x, 1, 10, 5, 1);
            Quay.loose(x, 0, 10, 5, 1);
            Quay.loose(x, 0, 11, 5, 1);
            return x;
        };
        Check.due(1, house.make().put(2, 1));
        Edge.answered(-6, house, x -> x.put(3, 1));
    }

    /** A box of a kind (0, 1, 2), in no row; row 1 has this ground. */
    private static PortHouse onGround(int kind, int ground) {
        PortHouse x = new PortHouse(1, 4, 3, 4, 400);
        x.ground(2, kind);
        Quay.loose(x, 3 * kind, 10, 5, 1);
        x.ground(1, ground);
        return x;
    }

    private static void ruleSeven() {
        Edge.term(12, "7 it is cooled and the ground has no PLUG");
        Check.due(1, onGround(1, 1).put(0, 1));
        Edge.answered(-7, () -> onGround(1, 0), x -> x.put(0, 1));
        Edge.answered(-7, () -> onGround(1, 2), x -> x.put(0, 1));
        Check.due(1, onGround(0, 1).put(0, 1));
    }

    private static void ruleEight() {
        Edge.term(12, "8 it is dangerous and the ground is not for that");
        Check.due(1, onGround(2, 2).put(0, 1));
        Edge.answered(-8, () -> onGround(2, 0), x -> x.put(0, 1));
        Edge.answered(-8, () -> onGround(2, 1), x -> x.put(0, 1));
        Edge.term(12, "8 .. or the other way about");
        Edge.answered(-8, () -> onGround(0, 2), x -> x.put(0, 1));
        Check.due(1, onGround(0, 0).put(0, 1));
    }

    private static void firstRule() {
        Edge.of(12, "minus the first RULE that is broken");
        PortHouse nine = new PortHouse(1, 4, 1, 1, 400);
        nine.box(0, 0, 0, 0, 10, 5, 1);
        nine.reserve(0, 2);
        Check.due(-9, nine.put(0, 0));
        PortHouse one = new PortHouse(1, 4, 1, 1, 400);
        Quay.on(one, 0, 10, 5, 1);
        Check.due(-1, one.put(0, 0));
        PortHouse two = new PortHouse(1, 4, 2, 1, 400);
        Quay.on(two, 0, 10, 5, 2);
        two.reserve(0, 2);
        Check.due(-2, two.put(Quay.loose(two, 0, 10, 5, 1), 0));
        PortHouse three = new PortHouse(1, 4, 2, 1, 10);
        Quay.on(three, 0, 10, 5, 2);
        Check.due(-3, three.put(Quay.loose(three, 0, 10, 5, 1), 0));
        PortHouse four = new PortHouse(1, 4, 2, 2, 12);
        Quay.on(four, 0, 10, 5, 2);
        Check.due(-4, four.put(Quay.loose(four, 1, 12, 5, 1), 0));
        PortHouse five = new PortHouse(1, 4, 2, 2, 100);
        Quay.on(five, 0, 10, 5, 2);
        Check.due(-5, five.put(Quay.loose(five, 1, 12, 5, 1), 0));
        PortHouse six = new PortHouse(1, 4, 3, 2, 100);
        six.ground(1, 1);
        Quay.on(six, 0, 10, 5, 2);
        Check.due(-6, six.put(Quay.loose(six, 3, 12, 5, 1), 0));
        PortHouse seven = new PortHouse(1, 4, 3, 2, 100);
        seven.ground(1, 1);
        seven.ground(2, 2);
        Check.due(-7, seven.put(Quay.loose(seven, 3, 12, 5, 1), 2));
    }

    // ---- promises 13, 14

    private static void takeEdges() {
        Edge.of(13, "IndexOutOfBoundsException if there is no such box");
        for (int none : new int[] {-1, 4, FAR_BELOW, FAR_ABOVE}) {
            Edge.thrown(Check.INDEX, YARD, x -> x.take(none));
        }
        Edge.of(13, "0 if it is not on top of a row: one stands upon it, it stands in none, it is aboard");
        Edge.answered(0, YARD, x -> x.take(0));
        Edge.answered(0, YARD, x -> x.take(2));
        Edge.answered(0, YARD, x -> x.take(3));
        Edge.of(13, "A box is taken away: 1");
        PortHouse x = yard();
        Check.due(1, x.take(1));
        Check.due(0, x.take(1));
        Check.due(1, x.take(0));
        Check.due(0, x.count(200));
        Check.due(0, x.count(300));
    }

    private static void shiftEdges() {
        Edge.of(14, "IndexOutOfBoundsException if there is no such box or row");
        for (int none : new int[] {-1, 4, FAR_BELOW, FAR_ABOVE}) {
            Edge.thrown(Check.INDEX, YARD, x -> x.shift(none, 1));
        }
        for (int none : new int[] {-1, 3, FAR_BELOW, FAR_ABOVE}) {
            Edge.thrown(Check.INDEX, YARD, x -> x.shift(1, none));
        }
        Edge.of(14, "0 if it is not on top of a row");
        for (int row = 0; row < 3; row++) {
            int r = row;
            Edge.answered(0, YARD, x -> x.shift(0, r));
            Edge.answered(0, YARD, x -> x.shift(2, r));
            Edge.answered(0, YARD, x -> x.shift(3, r));
        }
    }

    private static void shiftRules() {
        Edge.of(14, "below 0 if it may not stand there");
        Edge.answered(-1, YARD, x -> x.shift(1, 0));
        Edge.answered(-2, () -> {
            PortHouse x = yard();
            x.reserve(1, 9);
            return x;
        }, x -> x.shift(1, 1));
        Edge.answered(-3, () -> {
            PortHouse x = new PortHouse(1, 4, 2, 1, 100);
            Quay.on(x, 1, 20, 5, 1);
            Quay.on(x, 0, 20, 5, 1);
            return x;
        }, x -> x.shift(0, 0));
        Edge.answered(-4, () -> {
            PortHouse x = yard();
            Quay.on(x, 1, 23, 5, 1);
            return x;
        }, x -> x.shift(1, 1));
        Edge.answered(-6, () -> {
            PortHouse x = yard();
            x.put(2, 1);
            return x;
        }, x -> x.shift(1, 1));
        Edge.answered(-8, () -> {
            PortHouse x = yard();
            x.ground(1, 2);
            return x;
        }, x -> x.shift(1, 1));
        Check.due(1, yard().shift(1, 2));
    }

    // ---- promise 15

    private static void chooseEdges() {
        Edge.of(15, "IndexOutOfBoundsException if there is no such box");
        for (int none : new int[] {-1, 4, FAR_BELOW, FAR_ABOVE}) {
            Edge.thrown(Check.INDEX, YARD, x -> x.choose(none));
        }
        Edge.answered(1, YARD, x -> x.choose(2));
    }

    private static void chooseNone() {
        Edge.of(15, "NONE if there is none");
        Edge.answered(-1, () -> {
            PortHouse x = yard();
            x.ground(1, 2);
            x.reserve(2, 7);
            return x;
        }, x -> x.choose(2));
        Edge.of(15, "it stands in one");
        Edge.answered(-1, YARD, x -> x.choose(0));
        Edge.answered(-1, YARD, x -> x.choose(1));
        Edge.of(15, "or is not ASHORE");
        Edge.answered(-1, YARD, x -> x.choose(3));
        Edge.of(15, "or BEHIND");
        Edge.answered(-1, YardEdgesTest::behind, x -> x.choose(2));
        Edge.of(15, "or AWAY");
        Edge.answered(-1, () -> {
            PortHouse x = yard();
            x.away(2, BOND, true);
            return x;
        }, x -> x.choose(2));
    }

    private static void scoreEmptyAndSooner() {
        Edge.term(15, "20 if the row is empty; else 40 less 15 for each box there that leaves sooner than it");
        for (int sooner = 0; sooner <= 2; sooner++) {
            PortHouse x = new PortHouse(1, 4, 2, 4, 400);
            for (int i = 0; i < sooner; i++) {
                Quay.on(x, 1, 20, 4, 2);
            }
            Quay.on(x, 1, 20, 5, 2);
            int box = Quay.loose(x, 0, 20, 5, 1);
            Check.due(sooner < 2 ? 1 : 0, x.choose(box));
        }
    }

    private static void scoreShip() {
        Edge.term(15, "12 more if the top one is of its ship");
        PortHouse x = new PortHouse(1, 4, 2, 4, 400);
        Quay.on(x, 0, 20, 5, 2);
        Quay.on(x, 1, 20, 5, 2);
        Quay.on(x, 1, 20, 5, 1);
        Check.due(1, x.choose(Quay.loose(x, 0, 20, 5, 1)));
        Check.due(0, x.choose(Quay.loose(x, 0, 20, 5, 2)));
        Edge.term(15, "12 more if the top one .. : not by one below it");
        PortHouse y = new PortHouse(1, 4, 2, 4, 400);
        Quay.on(y, 0, 20, 5, 3);
        Quay.on(y, 1, 20, 5, 1);
        Quay.on(y, 1, 20, 5, 3);
        Check.due(0, y.choose(Quay.loose(y, 0, 20, 5, 1)));
    }

    private static void scoreLighter() {
        Edge.term(15, "less 3 for each unit of weight by which it is lighter than the top one");
        PortHouse x = new PortHouse(1, 4, 2, 4, 400);
        Quay.on(x, 1, 20, 5, 2);
        Check.due(1, x.choose(Quay.loose(x, 0, 14, 5, 1)));
        Check.due(0, x.choose(Quay.loose(x, 0, 13, 5, 1)));
        Edge.term(15, "(these 24 at most)");
        PortHouse y = new PortHouse(1, 4, 2, 4, 400);
        Quay.on(y, 1, 40, 5, 1);
        Check.due(1, y.choose(Quay.loose(y, 0, 32, 5, 1)));
        Check.due(1, y.choose(Quay.loose(y, 0, 31, 5, 1)));
        Check.due(1, y.choose(Quay.loose(y, 0, 1, 5, 1)));
    }

    private static void scoreReserved() {
        Edge.term(15, "and 30 more if the row is RESERVED");
        PortHouse x = new PortHouse(1, 4, 2, 4, 400);
        Quay.on(x, 0, 20, 5, 2);
        Quay.on(x, 1, 20, 4, 1);
        Quay.on(x, 1, 20, 4, 1);
        int box = Quay.loose(x, 0, 20, 5, 1);
        Check.due(0, x.choose(box));
        x.reserve(1, 1);
        Check.due(1, x.choose(box));
        x.reserve(1, 0);
        Check.due(0, x.choose(box));
    }

    private static void scoreTie() {
        Edge.term(15, "THE BEST row: with the greatest score, of such the least");
        PortHouse x = new PortHouse(1, 4, 20, 4, 400);
        Check.due(0, x.choose(loose(x, 0, 20)));
        for (int row = 0; row < 19; row++) {
            x.reserve(row, 9);
        }
        Check.due(19, x.choose(0));
        x.reserve(18, 0);
        Check.due(18, x.choose(0));
    }

    // ---- promise 16

    private static void nightEdges() {
        Edge.of(16, "IllegalArgumentException if it is not 0 .. 50");
        for (int none : new int[] {-1, 51, FAR_BELOW, FAR_ABOVE}) {
            Edge.thrown(Check.ARGUMENT, YARD, x -> x.night(none));
        }
        Edge.answered(0, YARD, x -> x.night(0));
        PortHouse x = yard();
        Check.due(1, x.night(50));
        Check.due(1, x.where(1, 0));
        Edge.of(16, "It ends when there is none");
        Edge.answered(0, () -> {
            PortHouse y = yard();
            y.night(50);
            return y;
        }, y -> y.night(50));
    }

    private static PortHouse threeInTheWay() {
        PortHouse x = new PortHouse(1, 4, 8, 4, 400);
        for (int row = 0; row < 3; row++) {
            Quay.on(x, row, 20, 5, 1);
            Quay.on(x, row, 20, 9, 1);
        }
        return x;
    }

    private static void nightSoMany() {
        Edge.term(16, "It ends when there is none, or so many moves are made");
        for (int moves = 0; moves <= 4; moves++) {
            PortHouse x = threeInTheWay();
            int before = x.count(5);
            Check.due(3, x.count(7));
            Check.due(Math.min(moves, 3), x.night(moves));
            Check.due(3 - Math.min(moves, 3), x.count(7));
            Check.due(before + Math.min(moves, 3), x.count(5));
        }
    }

    private static void nightMost() {
        Edge.term(16, "the one with the most boxes below it that leave sooner, of such the least row's");
        PortHouse x = new PortHouse(1, 4, 5, 4, 400);
        Quay.on(x, 0, 20, 5, 1);
        int one = Quay.on(x, 0, 20, 9, 1);
        Quay.on(x, 1, 20, 5, 1);
        Quay.on(x, 1, 20, 5, 1);
        int two = Quay.on(x, 1, 20, 9, 1);
        Quay.on(x, 2, 20, 5, 1);
        Quay.on(x, 2, 20, 5, 1);
        int alike = Quay.on(x, 2, 20, 9, 1);
        x.night(1);
        Check.due(3, x.where(two, 0));
        Check.due(0, x.where(one, 0));
        Check.due(2, x.where(alike, 0));
        x.night(1);
        Check.due(3, x.where(alike, 0));
        Check.due(0, x.where(one, 0));
        x.night(1);
        Check.due(3, x.where(one, 0));
    }

    private static void nightOwnRow() {
        Edge.term(16, "those alone for which there is a row, not their own, on which they may stand and are not in the"
                + " way");
        Edge.answered(0, () -> {
            PortHouse x = new PortHouse(1, 4, 1, 4, 400);
            Quay.on(x, 0, 20, 5, 1);
            Quay.on(x, 0, 20, 9, 1);
            return x;
        }, x -> x.night(50));
        Edge.answered(0, () -> {
            PortHouse x = new PortHouse(1, 4, 2, 4, 400);
            Quay.on(x, 0, 20, 5, 1);
            Quay.on(x, 0, 20, 9, 1);
            Quay.on(x, 1, 20, 8, 1);
            return x;
        }, x -> x.night(50));
        Edge.answered(0, () -> {
            PortHouse x = new PortHouse(1, 4, 2, 4, 400);
            Quay.on(x, 0, 20, 5, 1);
            Quay.on(x, 0, 20, 9, 1);
            Quay.on(x, 1, 19, 9, 1);
            return x;
        }, x -> x.night(50));
        Edge.term(16, "of all boxes on top of their row");
        Edge.answered(0, () -> {
            PortHouse x = new PortHouse(1, 4, 2, 4, 400);
            Quay.on(x, 0, 20, 5, 1);
            Quay.on(x, 0, 20, 9, 1);
            Quay.on(x, 0, 20, 5, 1);
            return x;
        }, x -> x.night(50));
    }

    private static void nightSameDay() {
        Edge.term(16, "are not in the way: upon one that leaves the same day");
        PortHouse x = new PortHouse(1, 4, 2, 4, 400);
        Quay.on(x, 0, 20, 5, 1);
        int way = Quay.on(x, 0, 20, 9, 1);
        Quay.on(x, 1, 20, 9, 1);
        Check.due(1, x.night(50));
        Check.due(1, x.where(way, 0));
        Check.due(1, x.where(way, 1));
        Check.due(way, x.undo());
        Check.due(0, x.where(way, 0));
    }

    // ---- promise 17

    private static void undoNone() {
        Edge.of(17, "NONE if there is none that is kept");
        Edge.answered(-1, () -> new PortHouse(1, 1, 1, 1, 1), x -> x.undo());
        PortHouse x = new PortHouse(1, 1, 1, 1, 40);
        Quay.standing(x, 0, 10, 5, 1);
        Check.due(0, x.undo());
        Check.due(-1, x.undo());
    }

    private static PortHouse shifted(int moves) {
        PortHouse x = new PortHouse(1, 4, 2, 4, 400);
        Quay.standing(x, 0, 20, 5, 1);
        for (int made = 1; made < moves; made++) {
            Check.due(1, x.shift(0, made % 2));
        }
        Check.due(moves, x.count(5));
        return x;
    }

    private static void undoHundred() {
        Edge.term(17, "(the latest 100 are kept)");
        for (int moves = 98; moves <= 102; moves++) {
            PortHouse x = shifted(moves);
            int kept = Math.min(moves, 100);
            Check.due(kept, x.count(6));
            for (int left = kept - 1; left >= 0; left--) {
                Check.due(0, x.undo());
                Check.due(left, x.count(6));
                Check.due(moves - kept + left, x.count(5));
            }
            Check.due(-1, x.undo());
            Check.due(moves - kept, x.count(5));
            Check.due(moves <= 100 ? -1 : (moves - 101) % 2, x.where(0, 0));
        }
    }

    private static void undoOnceMore() {
        Edge.term(17, "UNDONE is the latest of them that was not undone");
        PortHouse x = shifted(103);
        Check.due(0, x.undo());
        Check.due(0, x.undo());
        Check.due(98, x.count(6));
        Check.due(1, x.shift(0, 1));
        Check.due(1, x.take(0));
        Check.due(100, x.count(6));
        Check.due(1, x.put(0, 0));
        Check.due(100, x.count(6));
        Check.due(0, x.undo());
        Check.due(-1, x.where(0, 0));
        Check.due(0, x.undo());
        Check.due(1, x.where(0, 0));
        Check.due(0, x.undo());
        Check.due(0, x.where(0, 0));
        Check.due(97, x.count(6));
    }

    private static void undoAway() {
        Edge.term(17, "not if its box is .. AWAY now (it is the latest still)");
        Edge.House away = () -> {
            PortHouse x = yard();
            x.take(1);
            x.away(1, BOND, true);
            return x;
        };
        Edge.answered(-1, away, x -> x.undo());
        PortHouse x = away.make();
        int kept = x.count(6);
        Check.due(-1, x.undo());
        Check.due(kept, x.count(6));
        x.away(1, BOND, false);
        Check.due(1, x.undo());
        Check.due(0, x.where(1, 0));
        Check.due(1, x.where(1, 1));
        Edge.term(17, "not if its box is .. AWAY now: that of another move holds nothing");
        PortHouse y = yard();
        y.away(2, BOND, true);
        Check.due(1, y.take(1));
        Check.due(1, y.undo());
        Check.due(-1, y.undo());
    }

    private static void undoBehind() {
        Edge.term(17, "not if its box is BEHIND the gate");
        Edge.answered(-1, YardEdgesTest::behind, x -> x.undo());
        PortHouse x = behind();
        Check.due(1, x.take(1));
        Check.due(1, x.undo());
        Check.due(-1, x.undo());
    }

    private static void undoWhatever() {
        Edge.term(17, "(whatever the row's GROUND is by now, and whom it is RESERVED for)");
        PortHouse x = new PortHouse(1, 4, 2, 2, 40);
        Quay.on(x, 1, 20, 5, 1);
        x.take(0);
        x.ground(1, 2);
        x.reserve(1, 5);
        Check.due(0, x.undo());
        Check.due(0, x.at(1, 0));
        Check.due(2, x.count(401));
        Check.due(5, x.count(501));
        Edge.term(17, "it is as it was ahead of it .. and counts as a move no more");
        Check.due(3, x.count(5));
        Check.due(3, x.count(6));
    }

    private static void undoPutByWork() {
        Edge.term(17, "(A box whose putting is UNDONE is ASHORE in no row.)");
        PortHouse x = new PortHouse(1, 4, 2, 2, 40);
        Quay.standing(x, 0, 20, 5, 1);
        Check.due(0, x.undo());
        Check.due(3, x.aboard(0, 2));
        Check.due(-1, x.where(0, 0));
        Check.due(0, x.count(4));
        Check.due(1, x.count(1));
        Check.due(1, x.count(3));
        Check.due(1, x.put(0, 1));
    }

    // ---- promises 18, 19

    private static void whereEdges() {
        Edge.of(18, "IndexOutOfBoundsException if there is no such box or what");
        for (int none : new int[] {-1, 4, FAR_BELOW, FAR_ABOVE}) {
            Edge.thrown(Check.INDEX, YARD, x -> x.where(none, 0));
        }
        for (int none : new int[] {-1, 9, FAR_BELOW, FAR_ABOVE}) {
            Edge.thrown(Check.INDEX, YARD, x -> x.where(0, none));
        }
        Edge.of(18, "0: its row (NONE without), 1: its tier (0 the lowest; NONE without), 2: boxes above it in the row"
                + " (0 without), 3: 1 if it is IN THE WAY, 4: SIZE, 5: WEIGHT, 6: LEAVES, 7: SHIP, 8: KIND");
        int[][] due = {{0, 0, 1, 0, 1, 20, 5, 1, 0}, {0, 1, 0, 1, 1, 18, 9, 2, 0}, {-1, -1, 0, 0, 1, 2, 5, 1, 0},
            {-1, -1, 0, 0, 1, 10, 5, 1, 0}};
        PortHouse x = yard();
        for (int box = 0; box < 4; box++) {
            for (int what = 0; what <= 8; what++) {
                Check.due(due[box][what], x.where(box, what));
            }
        }
        Edge.term(18, "told together: 3 * KIND + SIZE - 1");
        PortHouse y = new PortHouse(3, 1, 1, 1, 1);
        for (int sort = 0; sort <= 8; sort++) {
            int box = y.box(sort / 3, sort % 3, 1, sort, 1, 0, 1);
            Check.due(sort / 3, y.where(box, 8));
            Check.due(sort % 3 + 1, y.where(box, 4));
        }
    }

    private static void inTheWay() {
        Edge.term(18, "A box is IN THE WAY if one below it leaves sooner");
        PortHouse x = new PortHouse(1, 4, 2, 4, 400);
        Quay.on(x, 1, 20, 5, 1);
        Check.due(0, x.where(0, 3));
        Quay.on(x, 1, 20, 5, 1);
        Check.due(0, x.where(1, 3));
        Quay.on(x, 1, 20, 6, 1);
        Check.due(1, x.where(2, 3));
        Quay.on(x, 1, 20, 4, 1);
        Check.due(0, x.where(3, 3));
        Check.due(1, x.count(7));
        Edge.term(18, "IN THE WAY if one below it .. : not only the next one");
        PortHouse y = new PortHouse(1, 4, 2, 4, 400);
        Quay.on(y, 1, 20, 1, 1);
        Quay.on(y, 1, 20, 9, 1);
        Quay.on(y, 1, 20, 8, 1);
        Check.due(1, y.where(2, 3));
        Check.due(2, y.count(7));
    }

    private static void atEdges() {
        Edge.of(19, "IndexOutOfBoundsException if there is no such row or tier");
        for (int none : new int[] {-1, 3, FAR_BELOW, FAR_ABOVE}) {
            Edge.thrown(Check.INDEX, YARD, x -> x.at(none, 0));
        }
        for (int none : new int[] {-1, 2, FAR_BELOW, FAR_ABOVE}) {
            Edge.thrown(Check.INDEX, YARD, x -> x.at(0, none));
        }
        Edge.of(19, "The box of a row at a tier; NONE without");
        PortHouse x = yard();
        Check.due(0, x.at(0, 0));
        Check.due(1, x.at(0, 1));
        Check.due(-1, x.at(2, 0));
        Check.due(-1, x.at(2, 1));
        x.take(1);
        Check.due(-1, x.at(0, 1));
        Check.due(0, x.at(0, 0));
    }
}
