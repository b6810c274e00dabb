/** Boundary cases of promises 53 to 62 and of the terms G on securities, each by the document's words. */
public final class SecuritiesEdgesTest {
    private static final int FAR_BELOW = Integer.MIN_VALUE;
    private static final int FAR_ABOVE = Integer.MAX_VALUE;
    private static final long MOST = 1000000000L;
    private static final int[] NO_GUARANTEE = {FAR_BELOW, -1, 0, 4, FAR_ABOVE};

    public static void main(String[] args) {
        guaranteeHolder();
        guaranteeAmount();
        guaranteeShare();
        guaranteeRate();
        guaranteeForty();
        firstEdges();
        firstOrder();
        shutEdges();
        shutBarsNewAlone();
        failsEdges();
        failsNextCovered();
        failsNotOfNothing();
        tickEdges();
        interestEdges();
        interestDays();
        interestClosed();
        interestRows();
        freeEdges();
        freeMost();
        listEdges();
        securityEdges();
        securityNeeds();
        securityMayCover();
        securityShareOfNothing();
        securitySingle();
        securityRisk();
        reservationEdges();
        reservationAllOrNothing();
        reservationFourParts();
        reservationEnds();
        claimedButZeroAtLeast();
        Check.end();
    }

    private static PortHouse house() {
        return Customs.house(4, "100%");
    }

    /** Holder 0: guarantees 1 (1000, cash of 3.65) and 2 (500, half, single); holder 7: 3. 300 are reserved by 0. */
    private static PortHouse secured() {
        PortHouse x = house();
        Check.due(1, x.guarantee(0, 1000, 1, 1, false, 365));
        Check.due(2, x.guarantee(0, 500, 1, 2, true, 0));
        Check.due(3, x.guarantee(7, 50, 1, 1, false, 0));
        Check.due(true, x.tick(10));
        Customs.secured(x, 0, 0, 300);
        return x;
    }

    private static final Edge.House SECURED = SecuritiesEdgesTest::secured;

    private static void facts(PortHouse x, int guarantee, long... due) {
        for (int what = 0; what < due.length; what++) {
            Check.due(due[what], x.security(guarantee, what));
        }
    }

    private static void parts(PortHouse x, int reservation, long... due) {
        Check.due(due.length / 2, x.reservation(reservation, 3));
        for (int i = 0; i < due.length / 2; i++) {
            Check.due(due[2 * i], x.reservation(reservation, 4 + i));
            Check.due(due[2 * i + 1], x.reservation(reservation, 8 + i));
        }
    }

    private static long reserved(PortHouse x, int holder, int desk, long cents) {
        return x.assess(Customs.declared(x, holder, desk, 0, cents), 0);
    }

    // ---- promise 53

    private static void guaranteeHolder() {
        Edge.of(53, "IllegalArgumentException if there is no such holder");
        for (int holder : new int[] {FAR_BELOW, -1, 8, FAR_ABOVE}) {
            Edge.thrown(Check.ARGUMENT, SECURED, x -> x.guarantee(holder, 5, 1, 1, false, 0));
        }
        for (int holder : new int[] {0, 7}) {
            PortHouse x = secured();
            Check.due(4, x.guarantee(holder, 5, 1, 1, false, 0));
            Check.due(holder, x.security(4, 0));
        }
    }

    private static void guaranteeAmount() {
        Edge.of(53, "or amount .. can't be");
        for (long amount : new long[] {Long.MIN_VALUE, -1, 0, MOST + 1, (1L << 32) + 5, Long.MAX_VALUE}) {
            Edge.thrown(Check.ARGUMENT, SECURED, x -> x.guarantee(0, amount, 1, 1, false, 0));
        }
        for (long amount : new long[] {1, MOST}) {
            PortHouse x = secured();
            Check.due(4, x.guarantee(0, amount, 1, 1, false, 0));
            Check.due(amount, x.security(4, 1));
        }
    }

    private static void guaranteeShare() {
        Edge.of(53, "or .. share .. can't be: up / down (0 .. 100 by 1 .. 100, up not above down)");
        int[][] bad = {{-1, 1}, {0, 0}, {1, 0}, {0, -1}, {-1, -1}, {2, 1}, {100, 99}, {101, 101}, {0, 101}, {100, 101},
            {FAR_BELOW, 1}, {0, FAR_ABOVE}, {FAR_ABOVE, FAR_ABOVE}};
        for (int[] a : bad) {
            Edge.thrown(Check.ARGUMENT, SECURED, x -> x.guarantee(0, 5, a[0], a[1], false, 0));
        }
        int[][] good = {{0, 1}, {1, 1}, {0, 100}, {99, 100}, {100, 100}};
        for (int[] a : good) {
            Check.due(4, secured().guarantee(0, 5, a[0], a[1], false, 0));
        }
    }

    private static void guaranteeRate() {
        Edge.of(53, "or .. rate can't be");
        for (int rate : new int[] {FAR_BELOW, -1, 1001, FAR_ABOVE}) {
            Edge.thrown(Check.ARGUMENT, SECURED, x -> x.guarantee(0, 5, 1, 1, false, rate));
        }
        for (int rate : new int[] {0, 1000}) {
            Check.due(4, secured().guarantee(0, 5, 1, 1, true, rate));
        }
    }

    private static void guaranteeForty() {
        Edge.of(53, "IllegalStateException if there are 40");
        Edge.House nearly = () -> {
            PortHouse x = house();
            for (int n = 1; n <= 39; n++) {
                Check.due(n, x.guarantee(3, n, 1, 1, false, 0));
            }
            return x;
        };
        Check.due(40, nearly.make().guarantee(3, 5, 1, 1, false, 0));
        Edge.House full = () -> {
            PortHouse x = nearly.make();
            x.guarantee(3, 5, 1, 1, false, 0);
            return x;
        };
        Edge.thrown(Check.STATE, full, x -> x.guarantee(3, 5, 1, 1, false, 0));
        Edge.thrown(Check.STATE, full, x -> x.guarantee(0, 5, 1, 1, false, 0));
        Edge.of(53, "Of several exceptions the one told first is thrown");
        Edge.thrown(Check.ARGUMENT, full, x -> x.guarantee(8, 5, 1, 1, false, 0));
        Edge.thrown(Check.ARGUMENT, full, x -> x.guarantee(0, 0, 1, 1, false, 0));
        Edge.of(60, "The i-th guarantee of a holder in its order: all 40");
        PortHouse x = full.make();
        Check.due(40, x.list(3, 39));
        Check.due(-1, x.list(3, 40));
        Check.due(true, x.first(40));
        Check.due(40, x.list(3, 0));
        Check.due(39, x.list(3, 39));
    }

    // ---- promises 54, 55

    private static void firstEdges() {
        Edge.of(54, "false if there is none such");
        for (int none : NO_GUARANTEE) {
            Edge.refused(SECURED, x -> x.first(none));
        }
        Edge.of(54, "or it does");
        Edge.refused(SECURED, x -> x.first(1));
        Edge.refused(SECURED, x -> x.first(3));
        Edge.refused(() -> {
            PortHouse x = secured();
            x.first(2);
            return x;
        }, x -> x.first(2));
    }

    private static void firstOrder() {
        Edge.term(54, "the holder's order: by number at first; one may be told to go FIRST of all");
        PortHouse x = house();
        x.guarantee(5, 1, 1, 1, false, 0);
        x.guarantee(4, 1, 1, 1, false, 0);
        x.guarantee(5, 1, 1, 1, false, 0);
        x.guarantee(5, 1, 1, 1, false, 0);
        int[][] firstAndOrder = {{4, 4, 1, 3}, {3, 3, 4, 1}, {4, 4, 3, 1}, {1, 1, 4, 3}};
        for (int[] a : firstAndOrder) {
            Check.due(true, x.first(a[0]));
            for (int i = 0; i < 3; i++) {
                Check.due(a[1 + i], x.list(5, i));
            }
            Check.due(-1, x.list(5, 3));
            Check.due(2, x.list(4, 0));
        }
        Check.due(5, x.guarantee(5, 1, 1, 1, false, 0));
        Check.due(5, x.list(5, 3));
    }

    private static void shutEdges() {
        Edge.of(55, "false if there is none such");
        for (int none : NO_GUARANTEE) {
            Edge.refused(SECURED, x -> x.shut(none));
        }
        Edge.of(55, "or it is");
        Edge.refused(() -> {
            PortHouse x = secured();
            Check.due(true, x.shut(1));
            x.tick(50);
            return x;
        }, x -> x.shut(1));
    }

    private static void shutBarsNewAlone() {
        Edge.term(55, "later CLOSED: that bars new reservations alone");
        PortHouse x = secured();
        x.shut(1);
        facts(x, 1, 0, 1000, 300, 700, 0, 1, 1, 0, 0);
        parts(x, 1, 1, 300);
        Check.due(0, x.reservation(1, 2));
        Check.due(1000, x.free(0));
        Check.due(300, x.claim(0, 0));
        facts(x, 1, 0, 700, 0, 700, 0, 0, 1, 0, 300);
    }

    // ---- promises 56, 57

    private static void failsEdges() {
        Edge.of(56, "false if there is none such");
        for (int none : new int[] {FAR_BELOW, -1, 4, FAR_ABOVE}) {
            Edge.refused(SECURED, x -> x.fails(none, true));
            Edge.refused(SECURED, x -> x.fails(none, false));
        }
        Edge.of(56, "or it is so");
        for (int desk = 0; desk < 4; desk++) {
            int d = desk;
            Edge.refused(SECURED, x -> x.fails(d, false));
            Edge.House failing = () -> {
                PortHouse x = secured();
                Check.due(true, x.fails(d, true));
                return x;
            };
            Edge.refused(failing, x -> x.fails(d, true));
            Check.due(true, failing.make().fails(d, false));
        }
    }

    private static void failsNextCovered() {
        Edge.term(56, "its next reservation .. that is covered is made and undone: nothing is there of it, no number"
                + " either, but one FAILURE more of this desk; then it fails no more");
        PortHouse x = secured();
        x.fails(2, true);
        Check.due(100, reserved(x, 0, 1, 100));
        Check.due(2, x.count(21));
        int d = Customs.declared(x, 0, 2, 0, 50);
        Check.due(-1, x.assess(d, 0));
        Check.due(2, x.count(21));
        Check.due(2, x.count(22));
        Check.due(1, x.count(26));
        Check.due(0, x.count(24) + x.count(25) + x.count(27));
        Check.due(0, x.declared(d, 7));
        Check.due(400, x.security(1, 2));
        Check.due(50, x.assess(d, 0));
        Check.due(3, x.declared(d, 9));
        Check.due(1, x.count(26));
    }

    private static void failsNotOfNothing() {
        Edge.term(56, "its next reservation (of more than 0) that is covered");
        PortHouse x = secured();
        x.fails(0, true);
        Check.due(0, reserved(x, 0, 0, 0));
        Check.due(-2 - 1700, reserved(x, 0, 0, 1701));
        Check.due(-2 - 50, reserved(x, 7, 0, 51));
        Check.due(0, x.count(24));
        Check.due(false, x.fails(0, true));
        Check.due(-1, reserved(x, 7, 0, 50));
        Check.due(1, x.count(24));
        Check.due(true, x.fails(0, true));
    }

    private static void tickEdges() {
        Edge.of(57, "false if it is ahead of TODAY");
        for (int day : new int[] {FAR_BELOW, -1, 0, 9}) {
            Edge.refused(SECURED, x -> x.tick(day));
        }
        Edge.of(57, "or above 100000");
        for (int day : new int[] {100001, FAR_ABOVE}) {
            Edge.refused(SECURED, x -> x.tick(day));
        }
        for (int day : new int[] {10, 11, 100000}) {
            PortHouse x = secured();
            Check.due(true, x.tick(day));
            Check.due(day, x.count(23));
        }
        PortHouse last = secured();
        last.tick(100000);
        Check.due(true, last.tick(100000));
        Check.due(false, last.tick(99999));
        Check.due(true, house().tick(0));
        Check.due(false, house().tick(-1));
    }

    // ---- promise 58

    private static void interestEdges() {
        Edge.of(58, "IllegalArgumentException if there is no such guarantee");
        for (int none : NO_GUARANTEE) {
            Edge.thrown(Check.ARGUMENT, SECURED, x -> x.interest(none));
        }
        Edge.of(58, "CASH ones have a RATE .. others 0");
        Edge.answered(0, SECURED, x -> x.interest(2));
        Edge.answered(1, SECURED, x -> x.interest(1));
    }

    private static void interestDays() {
        Edge.term(58, "for each day behind the one of its beginning up to TODAY");
        PortHouse x = house();
        x.tick(100);
        x.guarantee(0, MOST, 1, 1, false, 365);
        Check.due(0, x.interest(1));
        x.tick(101);
        Check.due(100000, x.interest(1));
        x.tick(102);
        Check.due(200000, x.interest(1));
        Edge.term(58, "exact for days one behind the other with one AMOUNT, rounded down for each such row of days");
        PortHouse y = house();
        y.guarantee(0, 1000, 1, 1, false, 365);
        int[][] dayAndInterest = {{0, 0}, {1, 0}, {9, 0}, {10, 1}, {11, 1}, {19, 1}, {20, 2}, {99999, 9999},
            {100000, 10000}};
        for (int[] a : dayAndInterest) {
            y.tick(a[0]);
            Check.due(a[1], y.interest(1));
        }
        PortHouse z = house();
        z.guarantee(0, MOST, 1, 1, false, 1000);
        z.tick(100000);
        Check.due(MOST * 1000 * 100000 / 3650000, z.interest(1));
    }

    private static void interestClosed() {
        Edge.term(58, "(or to the one on which it was closed; that day, too)");
        PortHouse x = house();
        x.guarantee(0, MOST, 1, 1, false, 365);
        x.tick(5);
        x.shut(1);
        Check.due(500000, x.interest(1));
        x.tick(6);
        Check.due(500000, x.interest(1));
        x.tick(100000);
        Check.due(500000, x.interest(1));
        PortHouse y = house();
        y.guarantee(0, MOST, 1, 1, false, 365);
        y.shut(1);
        y.tick(50);
        Check.due(0, y.interest(1));
        Edge.term(58, "to the one on which it was closed: another AMOUNT behind it changes nothing");
        PortHouse z = house();
        z.guarantee(0, MOST, 1, 1, false, 365);
        int d = Customs.secured(z, 0, 0, 1000);
        z.tick(5);
        z.shut(1);
        z.tick(9);
        Check.due(1000, z.claim(d, 0));
        Check.due(500000, z.interest(1));
        z.tick(20);
        Check.due(500000, z.interest(1));
    }

    private static void interestRows() {
        Edge.term(58, "AMOUNT (another one from the day behind its change on)");
        PortHouse x = secured();
        x.tick(19);
        Check.due(1, x.interest(1));
        x.claim(0, 0);
        Check.due(700, x.security(1, 1));
        Check.due(1, x.interest(1));
        x.tick(33);
        Check.due(1, x.interest(1));
        x.tick(34);
        Check.due(2, x.interest(1));
        PortHouse one = house();
        one.guarantee(0, MOST, 1, 1, false, 1);
        int cent = Customs.secured(one, 0, 0, 1);
        one.tick(1);
        Check.due(273, one.interest(1));
        Check.due(1, one.claim(cent, 0));
        one.tick(2);
        Check.due(273 + 273, one.interest(1));
        Edge.term(58, "rounded down for each such row of days: a claim that takes nothing makes no new row");
        PortHouse y = house();
        y.guarantee(0, 1000, 0, 1, false, 365);
        int first = Customs.secured(y, 0, 0, 1000);
        int second = Customs.secured(y, 0, 0, 10);
        y.tick(5);
        Check.due(1000, y.claim(first, 0));
        Check.due(0, y.security(1, 1));
        y.tick(8);
        Check.due(0, y.claim(second, 0));
        y.tick(5000);
        Check.due(0, y.interest(1));
    }

    // ---- promises 59, 60

    private static void freeEdges() {
        Edge.of(59, "NONE if there is no such holder");
        for (int none : new int[] {FAR_BELOW, -1, 8, FAR_ABOVE}) {
            Edge.answered(-1, SECURED, x -> x.free(none));
        }
        Edge.of(59, "What all of a holder's guarantees may cover together");
        Edge.answered(1700, SECURED, x -> x.free(0));
        Edge.answered(50, SECURED, x -> x.free(7));
        for (int holder = 1; holder < 7; holder++) {
            int h = holder;
            Edge.answered(0, SECURED, x -> x.free(h));
        }
    }

    private static void freeMost() {
        Edge.of(59, "(2000000000 at most)");
        PortHouse x = house();
        x.guarantee(0, MOST, 1, 1, false, 0);
        Check.due(MOST, x.free(0));
        x.guarantee(0, MOST - 1, 1, 1, false, 0);
        Check.due(2 * MOST - 1, x.free(0));
        x.guarantee(0, 1, 1, 1, false, 0);
        Check.due(2 * MOST, x.free(0));
        x.guarantee(0, 1, 1, 1, false, 0);
        Check.due(2 * MOST, x.free(0));
        PortHouse y = house();
        y.guarantee(1, MOST, 1, 100, false, 0);
        Check.due(2 * MOST, y.free(1));
    }

    private static void listEdges() {
        Edge.of(60, "The i-th guarantee of a holder in its order; NONE without");
        Edge.answered(1, SECURED, x -> x.list(0, 0));
        Edge.answered(2, SECURED, x -> x.list(0, 1));
        Edge.answered(3, SECURED, x -> x.list(7, 0));
        for (int i : new int[] {FAR_BELOW, -1, 2, 40, FAR_ABOVE}) {
            Edge.answered(-1, SECURED, x -> x.list(0, i));
        }
        for (int holder : new int[] {FAR_BELOW, -1, 1, 6, 8, FAR_ABOVE}) {
            Edge.answered(-1, SECURED, x -> x.list(holder, 0));
        }
    }

    // ---- promise 61

    private static void securityEdges() {
        Edge.of(61, "IndexOutOfBoundsException if there is none such, or no such what");
        for (int none : NO_GUARANTEE) {
            Edge.thrown(Check.INDEX, SECURED, x -> x.security(none, 0));
        }
        for (int what : new int[] {FAR_BELOW, -1, 9, FAR_ABOVE}) {
            Edge.thrown(Check.INDEX, SECURED, x -> x.security(1, what));
        }
        Edge.of(61, "what 0: holder, 1: AMOUNT, 2: NEEDED by its reservations, 3: FREE, 4: what it MAY COVER, 5:"
                + " reservations, 6: 1 if it is CLOSED, 7: RISK, 8: CLAIMED so far");
        PortHouse x = secured();
        facts(x, 1, 0, 1000, 300, 700, 700, 1, 0, 0, 0);
        facts(x, 2, 0, 500, 0, 500, 1000, 0, 0, 0, 0);
        facts(x, 3, 7, 50, 0, 50, 50, 0, 0, 0, 0);
    }

    private static void securityNeeds() {
        Edge.term(61, "To COVER x cents it NEEDS x * up / down, rounded up");
        long[][] centsAndNeeds = {{1, 1}, {2, 1}, {3, 1}, {4, 2}, {6, 2}, {7, 3}, {300, 100}};
        for (long[] a : centsAndNeeds) {
            PortHouse x = house();
            x.guarantee(0, 100, 1, 3, false, 0);
            Check.due(a[0], reserved(x, 0, 0, a[0]));
            facts(x, 1, 0, 100, a[1], 100 - a[1], (100 - a[1]) * 3);
        }
        Edge.term(61, "what is NEEDED by its reservations: of each, rounded up");
        PortHouse y = house();
        y.guarantee(0, 100, 1, 3, false, 0);
        reserved(y, 0, 0, 1);
        reserved(y, 0, 0, 1);
        facts(y, 1, 0, 100, 2, 98, 294, 2);
    }

    private static void securityMayCover() {
        Edge.term(61, "it MAY COVER the most x that NEEDS no more than FREE");
        long[][] amountUpDownMost = {{1, 1, 1, 1}, {1, 1, 100, 100}, {10, 3, 7, 23}, {10, 99, 100, 10}, {1, 99, 100, 1},
            {MOST, 100, 100, MOST}, {MOST, 1, 2, 2 * MOST}};
        for (long[] a : amountUpDownMost) {
            PortHouse x = house();
            x.guarantee(0, a[0], (int) a[1], (int) a[2], false, 0);
            Check.due(a[3], x.security(1, 4));
            if (a[3] < 1000) {
                Check.due(-2 - a[3], reserved(x, 0, 0, a[3] + 1));
                Check.due(a[3], reserved(x, 0, 0, a[3]));
                Check.due(true, x.security(1, 2) <= a[0]);
            }
        }
        Edge.term(61, "0 if it is CLOSED");
        PortHouse x = secured();
        x.shut(1);
        x.shut(2);
        Check.due(0, x.security(1, 4));
        Check.due(0, x.free(0));
        Check.due(-2, reserved(x, 0, 0, 1));
    }

    private static void securityShareOfNothing() {
        Edge.term(61, "(a share of 0: any x up to 1000000000)");
        PortHouse x = Customs.house(4, "1000%");
        x.guarantee(0, 1, 0, 100, false, 0);
        Check.due(MOST, x.security(1, 4));
        Check.due(MOST, reserved(x, 0, 0, 100000000L));
        facts(x, 1, 0, 1, 0, 1, MOST, 1);
        PortHouse y = Customs.house(4, "100%");
        y.guarantee(0, 1, 0, 1, false, 0);
        for (int i = 0; i < 10; i++) {
            Check.due(100000000L, reserved(y, 0, 0, 100000000L));
        }
        facts(y, 1, 0, 1, 0, 1, MOST, 10);
    }

    private static void securitySingle() {
        Edge.term(61, "0 if it is .. SINGLE and has a reservation");
        PortHouse x = house();
        x.guarantee(0, 500, 1, 1, true, 0);
        int d = Customs.secured(x, 0, 0, 1);
        facts(x, 1, 0, 500, 1, 499, 0, 1);
        Check.due(0, x.free(0));
        Check.due(-2, reserved(x, 0, 0, 1));
        x.pay(d, 0);
        facts(x, 1, 0, 500, 0, 500, 500, 0);
        Check.due(1, reserved(x, 0, 0, 1));
    }

    private static void securityRisk() {
        Edge.term(61, "what other reservations of that guarantee NEED may be above its AMOUNT: FREE is 0 then, and it"
                + " is at RISK for what is wanting");
        PortHouse x = house();
        x.guarantee(0, 100, 1, 2, false, 0);
        int first = Customs.secured(x, 0, 0, 50);
        int second = Customs.secured(x, 0, 0, 100);
        facts(x, 1, 0, 100, 75, 25, 50, 2, 0, 0, 0);
        Check.due(50, x.claim(first, 0));
        facts(x, 1, 0, 50, 50, 0, 0, 1, 0, 0, 50);
        int none = Customs.declared(x, 0, 0, 0, 1);
        Check.due(-2, x.assess(none, 0));
        PortHouse y = house();
        y.guarantee(0, 100, 1, 2, false, 0);
        Customs.secured(y, 0, 0, 51);
        Customs.secured(y, 0, 0, 100);
        y.claim(0, 0);
        facts(y, 1, 0, 49, 50, 0, 0, 1, 0, 1, 51);
        Check.due(true, second > first);
    }

    // ---- promise 62

    private static void reservationEdges() {
        Edge.of(62, "IndexOutOfBoundsException if there is none such");
        for (int none : new int[] {FAR_BELOW, -1, 0, 2, FAR_ABOVE}) {
            Edge.thrown(Check.INDEX, SECURED, x -> x.reservation(none, 0));
        }
        Edge.of(62, "or no such what or part");
        for (int what : new int[] {FAR_BELOW, -1, 5, 6, 7, 9, 10, 11, 12, FAR_ABOVE}) {
            Edge.thrown(Check.INDEX, SECURED, x -> x.reservation(1, what));
        }
        Edge.of(62, "from 4 on the guarantee of part what - 4, from 8 on what part what - 8 covers");
        long[] due = {0, 300, 0, 1, 1};
        for (int what = 0; what < due.length; what++) {
            int w = what;
            Edge.answered(due[what], SECURED, x -> x.reservation(1, w));
        }
        Edge.answered(300, SECURED, x -> x.reservation(1, 8));
        PortHouse x = house();
        for (int n = 1; n <= 4; n++) {
            x.guarantee(2, n, 1, 1, false, 0);
        }
        Customs.secured(x, 2, 0, 10);
        long[] all = {2, 10, 0, 4, 1, 2, 3, 4, 1, 2, 3, 4};
        for (int what = 0; what < all.length; what++) {
            Check.due(all[what], x.reservation(1, what));
        }
        Check.thrown(Check.INDEX, () -> x.reservation(1, 12));
    }

    private static void reservationAllOrNothing() {
        Edge.term(62, "each covers as much as it may and as is still wanted. All of it, or nothing");
        PortHouse x = secured();
        Check.due(-1702, reserved(x, 0, 0, 1701));
        facts(x, 1, 0, 1000, 300, 700, 700, 1);
        facts(x, 2, 0, 500, 0, 500, 1000, 0);
        Check.due(1, x.count(21));
        Check.due(1700, reserved(x, 0, 0, 1700));
        parts(x, 2, 1, 700, 2, 1000);
        Check.due(0, x.free(0));
        Edge.term(62, "PARTS (a guarantee and what it covers, those with something alone), in that order");
        PortHouse y = secured();
        y.first(2);
        Check.due(1000, reserved(y, 0, 0, 1000));
        parts(y, 2, 2, 1000);
        Check.due(700, reserved(y, 0, 0, 700));
        parts(y, 3, 1, 700);
    }

    private static void reservationFourParts() {
        Edge.term(62, "4 at most: what would need more is refused as well");
        Edge.House five = () -> {
            PortHouse x = house();
            for (int n = 0; n < 5; n++) {
                x.guarantee(0, 10, 1, 1, false, 0);
            }
            Customs.declared(x, 0, 0, 0, 40);
            Customs.declared(x, 0, 0, 0, 41);
            return x;
        };
        Check.due(40, five.make().assess(0, 0));
        Edge.answered(-52, five, x -> x.assess(1, 0));
        Edge.term(62, "those with something alone: closed ones are no parts");
        PortHouse x = five.make();
        x.shut(2);
        Check.due(40, x.assess(0, 0));
        parts(x, 1, 1, 10, 3, 10, 4, 10, 5, 10);
    }

    private static void reservationEnds() {
        Edge.term(62, "It is LIVE; then it ENDS, once: RELEASED (1), PAID (2): all of its parts go");
        PortHouse x = secured();
        x.cancel(0);
        ended(x, 1);
        facts(x, 1, 0, 1000, 0, 1000, 1000, 0, 0, 0, 0);
        PortHouse y = secured();
        y.pay(0, 0);
        ended(y, 2);
        facts(y, 1, 0, 1000, 0, 1000, 1000, 0, 0, 0, 0);
        Edge.term(62, "or CLAIMED (3): of each part's guarantee the AMOUNT is less by what the part covers");
        PortHouse z = secured();
        Check.due(300, z.claim(0, 0));
        ended(z, 3);
        facts(z, 1, 0, 700, 0, 700, 700, 0, 0, 0, 300);
        Edge.term(62, "all parts go: of each guarantee");
        for (int how = 1; how <= 3; how++) {
            PortHouse parted = house();
            for (int n = 1; n <= 3; n++) {
                parted.guarantee(0, 10, 1, 1, false, 0);
            }
            Customs.secured(parted, 0, 0, 25);
            parts(parted, 1, 1, 10, 2, 10, 3, 5);
            Check.due(how == 1 ? 1 : how == 2 ? 0 : 25, how == 1 ? parted.cancel(0) : how == 2 ? parted.pay(0, 0)
                    : parted.claim(0, 0));
            for (int n = 1; n <= 3; n++) {
                long taken = how < 3 ? 0 : n < 3 ? 10 : 5;
                facts(parted, n, 0, 10 - taken, 0, 10 - taken, 10 - taken, 0, 0, 0, taken);
            }
        }
    }

    private static void ended(PortHouse x, int how) {
        Check.due(0, x.reservation(1, 0));
        Check.due(0, x.reservation(1, 1));
        Check.due(how, x.reservation(1, 2));
        Check.due(0, x.reservation(1, 3));
        Check.thrown(Check.INDEX, () -> x.reservation(1, 4));
        Check.thrown(Check.INDEX, () -> x.reservation(1, 8));
        Check.due(1, x.count(21));
        Check.due(0, x.count(22));
    }

    private static void claimedButZeroAtLeast() {
        Edge.term(61, "the AMOUNT is less by what the part covers, but 0 at least; by how much it got less is CLAIMED"
                + " of it");
        long[][] coversAndTaken = {{99, 99, 1}, {100, 100, 0}, {101, 100, 0}, {200, 100, 0}};
        for (long[] a : coversAndTaken) {
            PortHouse x = house();
            x.guarantee(0, 100, 1, 2, false, 0);
            int d = Customs.secured(x, 0, 0, a[0]);
            Check.due(a[1], x.claim(d, 0));
            Check.due(a[2], x.security(1, 1));
            Check.due(a[1], x.security(1, 8));
        }
    }
}
