/** Boundary cases of promises 63 to 75 and of the terms G on the ledger, each by the document's words. */
public final class LedgerEdgesTest {
    private static final int FAR_BELOW = Integer.MIN_VALUE;
    private static final int FAR_ABOVE = Integer.MAX_VALUE;
    private static final long MOST = 1000000000L;
    private static final int[] NO_DAY = {FAR_BELOW, -1, 100001, FAR_ABOVE};
    private static final int[] NO_BATCH = {FAR_BELOW, -1, 4, FAR_ABOVE};

    public static void main(String[] args) {
        batchDays();
        batchEightHundred();
        entryNoOpenBatch();
        entryAccount();
        entryCents();
        entryTwenty();
        failingEdges();
        postNoOpenBatch();
        postNoEntries();
        postNoSum();
        postClosed();
        postAhead();
        postNoRoom();
        postLeast();
        postNamed();
        postVoid();
        postFails();
        reverseNoBatch();
        reverseDay();
        reverseOnce();
        reverseNotPosted();
        reverseTurns();
        closeEdges();
        accountEdges();
        accountDays();
        statementEdges();
        statementDays();
        shareEdges();
        costEdges();
        passedEdges();
        passedSum();
        passedCost();
        passedLeft();
        passedNoParts();
        readEdges();
        batchOfEdges();
        batchOfFacts();
        Check.end();
    }

    private static PortHouse house() {
        return new PortHouse(1, 1, 1, 1, 1);
    }

    private static int begun(PortHouse x, int valid, int known, long... accountsAndCents) {
        int batch = x.batch(valid, known);
        for (int i = 0; i < accountsAndCents.length; i += 2) {
            Check.due(true, x.entry(batch, (int) accountsAndCents[i], accountsAndCents[i + 1]));
        }
        return batch;
    }

    private static int posted(PortHouse x, int valid, int known, long... accountsAndCents) {
        int batch = begun(x, valid, known, accountsAndCents);
        Check.due(1, x.post(batch));
        return batch;
    }

    /** Batch 0 is posted (valid 40, known 50), 1 is void, 2 is open with two entries, 3 is open and empty. */
    private static PortHouse books() {
        PortHouse x = house();
        posted(x, 40, 50, 0, -700, 8, 700);
        int bad = begun(x, 1, 60, 4, 5);
        Check.thrown(Check.STATE, () -> x.post(bad));
        begun(x, 41, 51, 1, -9, 9, 9);
        begun(x, 42, 52);
        return x;
    }

    private static final Edge.House BOOKS = LedgerEdgesTest::books;

    // ---- promise 63

    private static void batchDays() {
        Edge.of(63, "IllegalArgumentException if these are no days");
        for (int none : NO_DAY) {
            Edge.thrown(Check.ARGUMENT, BOOKS, x -> x.batch(none, 5));
            Edge.thrown(Check.ARGUMENT, BOOKS, x -> x.batch(5, none));
        }
        for (int day : new int[] {0, 100000}) {
            PortHouse x = books();
            Check.due(4, x.batch(day, 5));
            Check.due(day, x.batchOf(4, 5));
            Check.due(5, x.batch(5, day));
            Check.due(day, x.batchOf(5, 6));
        }
    }

    // More calls than the document allows for: what it says of 800 holds all the same.
    private static void batchEightHundred() {
        Edge.of(63, "IllegalStateException if there are 800");
        PortHouse x = house();
        posted(x, 0, 0, 0, 1, 1, -1);
        for (int batch = 1; batch < 800; batch++) {
            Check.due(batch, x.batch(0, 0));
        }
        Check.thrown(Check.STATE, () -> x.batch(0, 0));
        Check.thrown(Check.ARGUMENT, () -> x.batch(0, -1));
        Check.thrown(Check.STATE, () -> x.reverse(0, 0));
        Check.due(800, x.count(28));
        Check.due(-1, x.batchOf(0, 3));
    }

    // ---- promises 64, 65

    private static void entryNoOpenBatch() {
        Edge.of(64, "false if there is no such batch that is OPEN");
        for (int none : NO_BATCH) {
            Edge.refused(BOOKS, x -> x.entry(none, 0, 1));
        }
        Edge.refused(BOOKS, x -> x.entry(0, 0, 1));
        Edge.refused(BOOKS, x -> x.entry(1, 0, 1));
        Check.due(true, books().entry(2, 0, 1));
        Check.due(true, books().entry(3, 0, 1));
    }

    private static void entryAccount() {
        Edge.of(64, "or account .. can't be");
        for (int account : new int[] {FAR_BELOW, -1, 12, FAR_ABOVE}) {
            Edge.refused(BOOKS, x -> x.entry(2, account, 1));
        }
        for (int account = 0; account < 12; account++) {
            PortHouse x = books();
            Check.due(true, x.entry(3, account, 5));
            Check.due(1, x.batchOf(3, 1));
        }
    }

    private static void entryCents() {
        Edge.of(64, "or .. cents can't be: -1000000000 .. 1000000000, not 0");
        for (long cents : new long[] {Long.MIN_VALUE, -MOST - 1, 0, MOST + 1, 1L << 32, Long.MAX_VALUE}) {
            Edge.refused(BOOKS, x -> x.entry(2, 0, cents));
        }
        PortHouse x = house();
        posted(x, 0, 0, 0, MOST, 1, -MOST, 2, 1, 3, -1);
        Check.due(MOST, x.read(0, 2));
        Check.due(-MOST, x.read(1, 2));
        Check.due(1, x.read(2, 2));
        Check.due(-1, x.read(3, 2));
    }

    private static PortHouse filled(int entries) {
        PortHouse x = house();
        x.batch(0, 0);
        for (int n = 0; n < entries; n++) {
            Check.due(true, x.entry(0, n % 12, n % 2 == 0 ? 3 : -3));
        }
        return x;
    }

    private static void entryTwenty() {
        Edge.of(64, "or it has 20");
        Check.due(true, filled(19).entry(0, 0, -3));
        Edge.House full = () -> filled(20);
        Edge.refused(full, x -> x.entry(0, 0, 1));
        PortHouse x = full.make();
        Check.due(20, x.batchOf(0, 1));
        Check.due(false, x.entry(0, 0, 1));
        Check.due(1, x.post(0));
        Check.due(20, x.count(29));
        Check.due(-3, x.read(19, 2));
        Check.due(7, x.read(19, 1));
    }

    private static void failingEdges() {
        Edge.of(65, "false if there is no such batch that is OPEN");
        for (int none : NO_BATCH) {
            Edge.refused(BOOKS, x -> x.failing(none, true));
            Edge.refused(BOOKS, x -> x.failing(none, false));
        }
        for (int batch = 0; batch < 2; batch++) {
            int b = batch;
            Edge.refused(BOOKS, x -> x.failing(b, true));
            Edge.refused(BOOKS, x -> x.failing(b, false));
        }
        Edge.of(65, "A batch is told to FAIL, or not to: true");
        PortHouse x = books();
        boolean[] told = {false, true, true, false, true};
        for (boolean is : told) {
            Check.due(true, x.failing(2, is));
            Check.due(is ? 1 : 0, x.batchOf(2, 4));
        }
    }

    // ---- promise 66

    private static void postNoOpenBatch() {
        Edge.of(66, "IllegalArgumentException if there is no such batch that is OPEN");
        for (int none : NO_BATCH) {
            Edge.thrown(Check.ARGUMENT, BOOKS, x -> x.post(none));
        }
        Edge.thrown(Check.ARGUMENT, BOOKS, x -> x.post(0));
        Edge.thrown(Check.ARGUMENT, BOOKS, x -> x.post(1));
        Check.due(1, books().post(2));
    }

    /** Posting makes it VOID: what was wrong, whom it names, and nothing else is there of it. */
    private static void voids(int wrong, int named, PortHouse x, int batch) {
        int entries = x.count(29);
        int latest = x.count(31);
        Check.thrown(Check.STATE, () -> x.post(batch));
        Check.due(wrong, x.count(32));
        Check.due(named, x.count(33));
        Check.due(2, x.batchOf(batch, 0));
        Check.due(0, x.batchOf(batch, 1));
        Check.due(entries, x.count(29));
        Check.due(latest, x.count(31));
        Check.thrown(Check.ARGUMENT, () -> x.post(batch));
    }

    private static void postNoEntries() {
        Edge.term(66, "1 no entries");
        voids(1, -1, books(), 3);
        PortHouse x = books();
        x.entry(3, 0, 1);
        x.entry(3, 1, -1);
        Check.due(1, x.post(3));
    }

    private static void postNoSum() {
        Edge.term(66, "2 cents don't sum to 0");
        PortHouse one = books();
        one.entry(2, 7, 1);
        voids(2, 1, one, 2);
        PortHouse less = books();
        less.entry(2, 7, -1);
        voids(2, 1, less, 2);
        PortHouse wide = house();
        int batch = wide.batch(0, 0);
        for (int n = 0; n < 20; n++) {
            wide.entry(batch, 3, MOST);
        }
        voids(2, 3, wide, batch);
        PortHouse x = house();
        int even = x.batch(0, 0);
        for (int n = 0; n < 20; n++) {
            x.entry(even, 3, n % 2 == 0 ? MOST : -MOST);
        }
        Check.due(1, x.post(even));
    }

    private static void postClosed() {
        Edge.term(66, "3 the day is closed: its KNOWN day must be behind the CLOSED one (at first none is: NONE)");
        PortHouse none = house();
        Check.due(-1, none.count(30));
        posted(none, 0, 0, 0, 1, 1, -1);
        for (int closed : new int[] {49, 50, 51, 52}) {
            PortHouse x = books();
            x.close(closed);
            if (closed < 51) {
                Check.due(1, x.post(2));
            } else {
                voids(3, -1, x, 2);
            }
        }
        PortHouse last = house();
        begun(last, 0, 100000, 0, 1, 1, -1);
        last.close(100000);
        voids(3, -1, last, 0);
    }

    private static void postAhead() {
        Edge.term(66, "4 it is ahead of what was posted: not ahead of that of the latest batch that was posted");
        PortHouse same = books();
        posted(same, 0, 50, 0, 1, 1, -1);
        Check.due(50, same.count(31));
        PortHouse less = books();
        voids(4, -1, less, begun(less, 0, 49, 0, 1, 1, -1));
        PortHouse more = books();
        posted(more, 0, 52, 0, 1, 1, -1);
        voids(4, -1, more, 2);
        Check.due(52, more.count(31));
    }

    // More calls than the document allows for: what it says of 4000 holds all the same.
    private static void postNoRoom() {
        Edge.term(66, "5 no room: all of its entries must have room in the ledger (4000 at most)");
        PortHouse x = house();
        for (int n = 0; n < 199; n++) {
            Check.due(1, x.post(sized(x, 20)));
        }
        Check.due(1, x.post(sized(x, 17)));
        Check.due(3997, x.count(29));
        voids(5, -1, x, sized(x, 4));
        int last = sized(x, 3);
        Check.due(1, x.post(last));
        Check.due(4000, x.count(29));
        Check.due(last, x.read(3999, 0));
        Check.thrown(Check.INDEX, () -> x.read(4000, 0));
        voids(5, -1, x, sized(x, 2));
        Check.thrown(Check.STATE, () -> x.reverse(last, 0));
    }

    /** An open batch of so many entries that sum to 0. */
    private static int sized(PortHouse x, int entries) {
        int batch = begun(x, 0, 0, 0, entries - 1);
        for (int n = 1; n < entries; n++) {
            Check.due(true, x.entry(batch, 1, -1));
        }
        return batch;
    }

    private static void postLeast() {
        Edge.term(66, "5 no room: the least");
        PortHouse one = house();
        one.close(5);
        voids(1, -1, one, one.batch(0, 0));
        PortHouse two = house();
        posted(two, 0, 9, 0, 1, 1, -1);
        two.close(5);
        voids(2, 6, two, begun(two, 0, 0, 6, 1));
        voids(3, -1, two, begun(two, 0, 5, 6, 1, 7, -1));
        voids(4, -1, two, begun(two, 0, 6, 6, 1, 7, -1));
        posted(two, 0, 9, 6, 1, 7, -1);
        Edge.term(66, "WHAT WAS WRONG with the latest batch that became VOID");
        Check.due(4, two.count(32));
    }

    private static void postNamed() {
        Edge.term(66, "an account is NAMED: that with the greatest sum of cents in the batch, sign left out, of such"
                + " the least one; else none");
        Check.due(-1, house().count(33));
        long[][] entriesAndNamed = {{11, 5, 11}, {0, 5, 0}, {3, 5, 4, -6, 4}, {3, 6, 4, -6, 5, 1, 3}, {4, -6, 3, 6, 5, 1, 3},
            {3, 4, 4, 6, 3, 4, 3}, {3, 4, 4, 6, 3, 2, 3}, {3, 9, 4, 6, 3, -4, 4}, {0, 1, 11, -2, 11}};
        for (long[] a : entriesAndNamed) {
            PortHouse x = house();
            int batch = x.batch(0, 0);
            for (int i = 0; i + 1 < a.length; i += 2) {
                x.entry(batch, (int) a[i], a[i + 1]);
            }
            voids(2, (int) a[a.length - 1], x, batch);
            voids(1, -1, x, x.batch(0, 0));
            voids(2, 6, x, begun(x, 0, 0, 6, 1));
        }
        Edge.term(66, "the greatest sum of cents in the batch: not in the one behind it");
        PortHouse full = house();
        full.batch(0, 0);
        for (int n = 0; n < 20; n++) {
            full.entry(0, 1, 1);
        }
        begun(full, 0, 0, 5, MOST);
        voids(2, 1, full, 0);
    }

    private static void postVoid() {
        Edge.term(66, "If it can't be posted it is VOID: nothing of it is left, but what was WRONG (below)");
        PortHouse x = books();
        x.close(60);
        voids(3, -1, x, 2);
        Check.due(false, x.entry(2, 0, 1));
        Check.due(false, x.failing(2, true));
        Check.due(41, x.batchOf(2, 5));
        Check.due(51, x.batchOf(2, 6));
        Check.due(0, x.account(1, 100000, 100000));
        Check.thrown(Check.ARGUMENT, () -> x.reverse(2, 70));
    }

    private static void postFails() {
        Edge.of(66, "UnsupportedOperationException if it FAILED");
        Edge.term(66, "these go out again, and the batch is OPEN as before, told to fail no more");
        PortHouse x = books();
        x.failing(2, true);
        Check.thrown(Check.UNSUPPORTED, () -> x.post(2));
        Check.due(2, x.count(29));
        Check.due(50, x.count(31));
        Check.due(1, x.count(34));
        Check.due(0, x.batchOf(2, 0));
        Check.due(2, x.batchOf(2, 1));
        Check.due(0, x.batchOf(2, 4));
        Check.due(0, x.account(1, 100000, 100000));
        Check.due(1, x.post(2));
        Check.due(4, x.count(29));
        Check.due(1, x.count(34));
        Edge.term(66, "then posting it, if it can be posted, stops: one that can't be is VOID");
        PortHouse y = books();
        y.failing(3, true);
        voids(1, -1, y, 3);
        Check.due(0, y.count(34));
        Edge.of(75, "4: 1 if it is told to fail (a VOID one, too, if it was)");
        Check.due(1, y.batchOf(3, 4));
        Check.due(0, y.batchOf(1, 4));
    }

    // ---- promise 67

    private static void reverseNoBatch() {
        Edge.of(67, "IllegalArgumentException if there is no such batch that is posted");
        for (int none : NO_BATCH) {
            Edge.thrown(Check.ARGUMENT, BOOKS, x -> x.reverse(none, 60));
        }
        for (int batch = 1; batch < 4; batch++) {
            int b = batch;
            Edge.thrown(Check.ARGUMENT, BOOKS, x -> x.reverse(b, 60));
        }
        Check.due(4, books().reverse(0, 60));
    }

    private static void reverseDay() {
        Edge.of(67, "or no such day");
        for (int none : NO_DAY) {
            Edge.thrown(Check.ARGUMENT, BOOKS, x -> x.reverse(0, none));
        }
        Check.due(4, books().reverse(0, 100000));
        PortHouse x = house();
        posted(x, 5, 0, 0, 1, 1, -1);
        Check.due(1, x.reverse(0, 0));
    }

    private static void reverseOnce() {
        Edge.of(67, "IllegalStateException if it was reversed or is a reversal");
        Edge.House reversed = () -> {
            PortHouse x = books();
            Check.due(4, x.reverse(0, 60));
            return x;
        };
        Edge.thrown(Check.STATE, reversed, x -> x.reverse(0, 60));
        Edge.thrown(Check.STATE, reversed, x -> x.reverse(4, 60));
        Edge.of(67, "Of several exceptions the one told first is thrown");
        Edge.thrown(Check.ARGUMENT, reversed, x -> x.reverse(0, -1));
    }

    private static void reverseNotPosted() {
        Edge.of(67, "or it can't be posted (no batch is made then)");
        Edge.thrown(Check.STATE, BOOKS, x -> x.reverse(0, 49));
        Check.due(4, books().reverse(0, 50));
        Edge.House closed = () -> {
            PortHouse x = books();
            x.close(55);
            return x;
        };
        Edge.thrown(Check.STATE, closed, x -> x.reverse(0, 55));
        Check.due(4, closed.make().reverse(0, 56));
        Edge.term(67, "(by POST alone): a reversal that can't be leaves what was WRONG");
        PortHouse x = closed.make();
        Check.due(2, x.count(32));
        Check.due(4, x.count(33));
        Check.thrown(Check.STATE, () -> x.reverse(0, 55));
        Check.due(2, x.count(32));
        Check.due(4, x.count(33));
        Check.due(4, x.count(28));
    }

    private static void reverseTurns() {
        Edge.term(67, "a batch with its entries turned in sign, of the same VALID day, KNOWN on a day that is told,"
                + " posted at once");
        PortHouse x = house();
        posted(x, 5, 10, 0, MOST, 1, -MOST);
        Check.due(1, x.reverse(0, 12));
        long[][] due = {{0, 0, MOST, 5, 10}, {0, 1, -MOST, 5, 10}, {1, 0, -MOST, 5, 12}, {1, 1, MOST, 5, 12}};
        for (int i = 0; i < 4; i++) {
            for (int what = 0; what < 5; what++) {
                Check.due(due[i][what], x.read(i, what));
            }
        }
        int[][] facts = {{1, 2, -1, 1, 0, 5, 10}, {1, 2, 0, -1, 0, 5, 12}};
        for (int batch = 0; batch < 2; batch++) {
            for (int what = 0; what < 7; what++) {
                Check.due(facts[batch][what], x.batchOf(batch, what));
            }
        }
        Check.due(12, x.count(31));
        Check.due(MOST, x.account(0, 100000, 11));
        Check.due(0, x.account(0, 100000, 12));
    }

    // ---- promises 68 to 70

    private static void closeEdges() {
        Edge.of(68, "false if there is no such day");
        for (int none : NO_DAY) {
            Edge.refused(BOOKS, x -> x.close(none));
        }
        Edge.of(68, "or it is not above the one that is closed");
        Edge.House closed = () -> {
            PortHouse x = books();
            Check.due(true, x.close(20));
            return x;
        };
        for (int day : new int[] {0, 19, 20}) {
            Edge.refused(closed, x -> x.close(day));
        }
        PortHouse x = closed.make();
        Check.due(true, x.close(21));
        Check.due(21, x.count(30));
        Check.due(true, x.close(100000));
        Check.due(false, x.close(100000));
        PortHouse y = house();
        Check.due(true, y.close(0));
        Check.due(0, y.count(30));
        Check.due(false, y.close(0));
        Check.due(true, house().close(100000));
    }

    private static void accountEdges() {
        Edge.of(69, "IllegalArgumentException if there is no such account");
        for (int account : new int[] {FAR_BELOW, -1, 12, FAR_ABOVE}) {
            Edge.thrown(Check.ARGUMENT, BOOKS, x -> x.account(account, 50, 50));
        }
        Check.due(0, books().account(11, 50, 50));
        Edge.of(69, "or these are no days");
        for (int none : NO_DAY) {
            Edge.thrown(Check.ARGUMENT, BOOKS, x -> x.account(0, none, 50));
            Edge.thrown(Check.ARGUMENT, BOOKS, x -> x.account(0, 50, none));
        }
    }

    private static void accountDays() {
        Edge.term(69, "its entries with a VALID day not behind the one, and a KNOWN day not behind the other");
        PortHouse x = books();
        long[][] dayKnownSum = {{39, 100000, 0}, {40, 49, 0}, {40, 50, -700}, {41, 51, -700}, {100000, 100000, -700},
            {0, 0, 0}, {40, 0, 0}, {0, 50, 0}};
        for (long[] a : dayKnownSum) {
            Check.due(a[2], x.account(0, (int) a[0], (int) a[1]));
            Check.due(-a[2], x.account(8, (int) a[0], (int) a[1]));
        }
        PortHouse y = house();
        posted(y, 0, 0, 0, 1, 1, -1);
        posted(y, 100000, 100000, 0, 2, 1, -2);
        Check.due(1, y.account(0, 0, 0));
        Check.due(1, y.account(0, 99999, 100000));
        Check.due(1, y.account(0, 100000, 99999));
        Check.due(3, y.account(0, 100000, 100000));
    }

    private static void statementEdges() {
        Edge.of(70, "IllegalArgumentException if there is no such account, month (0 .. 3333), or day");
        for (int account : new int[] {FAR_BELOW, -1, 12, FAR_ABOVE}) {
            Edge.thrown(Check.ARGUMENT, BOOKS, x -> x.statement(account, 1, 50));
        }
        for (int month : new int[] {FAR_BELOW, -1, 3334, FAR_ABOVE}) {
            Edge.thrown(Check.ARGUMENT, BOOKS, x -> x.statement(0, month, 50));
        }
        for (int none : NO_DAY) {
            Edge.thrown(Check.ARGUMENT, BOOKS, x -> x.statement(0, 1, none));
        }
        Edge.answered(0, BOOKS, x -> x.statement(11, 0, 0));
        Edge.answered(0, BOOKS, x -> x.statement(11, 3333, 100000));
        Edge.answered(0, BOOKS, x -> x.statement(0, 1, 49));
        Edge.answered(-700, BOOKS, x -> x.statement(0, 1, 50));
    }

    private static void statementDays() {
        Edge.term(70, "a MONTH m has days 30 * m to 30 * m + 29");
        int[][] dayAndMonth = {{0, 0}, {29, 0}, {30, 1}, {59, 1}, {60, 2}, {99989, 3332}, {99990, 3333},
            {100000, 3333}};
        for (int[] a : dayAndMonth) {
            PortHouse x = house();
            posted(x, a[0], 0, 3, 5, 4, -5);
            for (int month = Math.max(0, a[1] - 1); month <= Math.min(3333, a[1] + 1); month++) {
                Check.due(month == a[1] ? 5 : 0, x.statement(3, month, 100000));
            }
        }
    }

    // ---- promises 71 to 73

    /** Kind 1 has 1000, with parts 1, 2 and a cost of 1 in 100. */
    private static PortHouse shared() {
        PortHouse x = house();
        posted(x, 5, 10, 8, 1000, 0, -1000);
        Check.due(true, x.share(1, 0, 1));
        Check.due(true, x.share(1, 3, 2));
        Check.due(true, x.cost(1, 10));
        return x;
    }

    private static final Edge.House SHARED = LedgerEdgesTest::shared;

    private static void shareEdges() {
        Edge.of(71, "false if there is no such kind or receiver");
        for (int none : new int[] {FAR_BELOW, -1, 4, FAR_ABOVE}) {
            Edge.refused(SHARED, x -> x.share(none, 0, 5));
            Edge.refused(SHARED, x -> x.share(1, none, 5));
        }
        Edge.of(71, "or it can't be: parts (0 .. 1000)");
        for (int part : new int[] {FAR_BELOW, -1, 1001, FAR_ABOVE}) {
            Edge.refused(SHARED, x -> x.share(1, 0, part));
        }
        for (int kind = 0; kind < 4; kind += 3) {
            for (int receiver = 0; receiver < 4; receiver += 3) {
                Check.due(true, shared().share(kind, receiver, 0));
                Check.due(true, shared().share(kind, receiver, 1000));
            }
        }
        PortHouse x = shared();
        x.share(1, 0, 1000);
        x.share(1, 3, 0);
        Check.due(990, x.passed(1, 0, 10));
        Check.due(0, x.passed(1, 3, 10));
    }

    private static void costEdges() {
        Edge.of(72, "false if there is no such kind");
        for (int none : new int[] {FAR_BELOW, -1, 4, FAR_ABOVE}) {
            Edge.refused(SHARED, x -> x.cost(none, 5));
        }
        Edge.of(72, "or it can't be: some thousandths (0 .. 1000)");
        for (int thousandths : new int[] {FAR_BELOW, -1, 1001, FAR_ABOVE}) {
            Edge.refused(SHARED, x -> x.cost(1, thousandths));
        }
        Check.due(true, shared().cost(0, 0));
        Check.due(true, shared().cost(3, 1000));
    }

    private static void passedEdges() {
        Edge.of(73, "IllegalArgumentException if there is no such kind, day or what");
        for (int none : new int[] {FAR_BELOW, -1, 4, FAR_ABOVE}) {
            Edge.thrown(Check.ARGUMENT, SHARED, x -> x.passed(none, 0, 10));
        }
        for (int what : new int[] {FAR_BELOW, -1, 7, FAR_ABOVE}) {
            Edge.thrown(Check.ARGUMENT, SHARED, x -> x.passed(1, what, 10));
        }
        for (int none : NO_DAY) {
            Edge.thrown(Check.ARGUMENT, SHARED, x -> x.passed(1, 0, none));
        }
        Edge.of(73, "what 0 to 3: to a receiver, 4: COST, 5: KEPT, 6: S");
        long[] due = {330, 0, 0, 660, 10, 10, 1000};
        for (int what = 0; what < 7; what++) {
            int w = what;
            Edge.answered(due[what], SHARED, x -> x.passed(1, w, 10));
            Edge.answered(0, SHARED, x -> x.passed(1, w, 9));
            Edge.answered(0, SHARED, x -> x.passed(0, w, 100000));
            Edge.answered(0, SHARED, x -> x.passed(3, w, 100000));
        }
    }

    private static void passedSum() {
        Edge.term(73, "the sum S of the balances of all accounts of that kind (for any valid day) if it is above 0,"
                + " else 0");
        PortHouse x = house();
        posted(x, 100000, 0, 0, 5, 7, -4, 8, 1, 9, 2, 10, -3, 11, -1);
        long[] sums = {1, 1, 2, 0};
        for (int kind = 0; kind < 4; kind++) {
            Check.due(sums[kind], x.passed(kind, 6, 0));
        }
        posted(x, 0, 0, 7, -1, 11, 1);
        Check.due(0, x.passed(0, 6, 0));
        posted(x, 0, 0, 10, 4, 8, -4);
        Check.due(1, x.passed(3, 6, 0));
        Check.due(0, x.passed(1, 6, 0));
        posted(x, 0, 0, 11, 7, 0, -7);
        Check.due(8, x.passed(3, 6, 0));
    }

    private static void passedCost() {
        Edge.term(73, "COST is S * thousandths / 1000, rounded down");
        long[][] thousandthsAndCost = {{0, 0}, {1, 0}, {2, 1}, {3, 2}, {999, 998}, {1000, 999}};
        for (long[] a : thousandthsAndCost) {
            PortHouse x = house();
            posted(x, 0, 0, 8, 999, 0, -999);
            x.cost(1, (int) a[0]);
            x.share(1, 2, 1);
            Check.due(a[1], x.passed(1, 4, 0));
            Check.due(999 - a[1], x.passed(1, 2, 0));
            Check.due(a[1], x.passed(1, 5, 0));
        }
    }

    private static void passedLeft() {
        Edge.term(73, "the cents that are left go one each to receivers with the greatest remainders, of equal ones the"
                + " least");
        long[][] sumPartsGiven = {{4, 1, 1, 1, 1, 1, 1, 1, 1}, {5, 1, 1, 1, 1, 2, 1, 1, 1}, {7, 1, 1, 1, 1, 2, 2, 2, 1},
            {10, 1, 1, 1, 0, 4, 3, 3, 0}, {10, 0, 1, 1, 1, 0, 4, 3, 3}, {5, 1, 2, 3, 4, 1, 1, 1, 2},
            {1, 1, 2, 3, 4, 0, 0, 0, 1}, {1, 1000, 1000, 1000, 1000, 1, 0, 0, 0}, {3, 1, 0, 999, 1000, 0, 0, 1, 2}};
        for (long[] a : sumPartsGiven) {
            PortHouse x = house();
            posted(x, 0, 0, 8, a[0], 0, -a[0]);
            for (int i = 0; i < 4; i++) {
                x.share(1, i, (int) a[1 + i]);
            }
            for (int i = 0; i < 4; i++) {
                Check.due(a[5 + i], x.passed(1, i, 0));
            }
            Check.due(0, x.passed(1, 5, 0));
        }
    }

    private static void passedNoParts() {
        Edge.term(73, "(none, if all parts are 0: then nothing is passed on)");
        PortHouse x = house();
        posted(x, 0, 0, 8, 1000, 0, -1000);
        x.cost(1, 100);
        for (int i = 0; i < 4; i++) {
            Check.due(0, x.passed(1, i, 0));
        }
        Check.due(100, x.passed(1, 4, 0));
        Edge.term(73, "KEPT: S less all that is passed on to receivers (so the COST is in it)");
        Check.due(1000, x.passed(1, 5, 0));
        x.share(1, 1, 1);
        Check.due(900, x.passed(1, 1, 0));
        Check.due(100, x.passed(1, 5, 0));
        x.share(1, 1, 0);
        Check.due(0, x.passed(1, 1, 0));
        Check.due(1000, x.passed(1, 5, 0));
        Check.due(1000, x.passed(1, 6, 0));
    }

    // ---- promises 74, 75

    private static void readEdges() {
        Edge.of(74, "IndexOutOfBoundsException if there is none such, or no such what");
        for (int none : new int[] {FAR_BELOW, -1, 2, 4000, FAR_ABOVE}) {
            Edge.thrown(Check.INDEX, BOOKS, x -> x.read(none, 0));
        }
        for (int what : new int[] {FAR_BELOW, -1, 5, FAR_ABOVE}) {
            Edge.thrown(Check.INDEX, BOOKS, x -> x.read(0, what));
        }
        Edge.thrown(Check.INDEX, LedgerEdgesTest::house, x -> x.read(0, 0));
        Edge.of(74, "Of entry i of the ledger: what 0: batch, 1: account, 2: cents, 3: VALID, 4: KNOWN day");
        long[][] due = {{0, 0, -700, 40, 50}, {0, 8, 700, 40, 50}};
        for (int i = 0; i < 2; i++) {
            for (int what = 0; what < 5; what++) {
                int n = i;
                int w = what;
                Edge.answered(due[i][what], BOOKS, x -> x.read(n, w));
            }
        }
    }

    private static void batchOfEdges() {
        Edge.of(75, "IndexOutOfBoundsException if there is no such batch or what");
        for (int none : NO_BATCH) {
            Edge.thrown(Check.INDEX, BOOKS, x -> x.batchOf(none, 0));
        }
        for (int what : new int[] {FAR_BELOW, -1, 7, FAR_ABOVE}) {
            Edge.thrown(Check.INDEX, BOOKS, x -> x.batchOf(0, what));
        }
    }

    private static void batchOfFacts() {
        Edge.of(75, "what 0: 0 OPEN, 1 posted, 2 VOID; 1: entries (of a VOID one 0), 2: the batch that it reverses,"
                + " NONE without, 3: that which reversed it, NONE without, 4: 1 if it is told to fail, 5: VALID, 6:"
                + " KNOWN day");
        int[][] due = {{1, 2, -1, -1, 0, 40, 50}, {2, 0, -1, -1, 0, 1, 60}, {0, 2, -1, -1, 0, 41, 51},
            {0, 0, -1, -1, 0, 42, 52}};
        PortHouse x = books();
        for (int batch = 0; batch < 4; batch++) {
            for (int what = 0; what < 7; what++) {
                Check.due(due[batch][what], x.batchOf(batch, what));
            }
        }
    }
}
