import java.util.Arrays;

/**
 * A port and its customs as one house. The face tests what it is told and throws; the classes inside keep the
 * state, each of one part (A to H) of the document, and are only called with numbers that were tested.
 */
public final class PortHouse {
    /** None. */
    public static final int NONE = -1;
    /** Each land. */
    public static final int ALL = 31;
    /** A day that never comes. */
    public static final int OPEN = 20000;

    private static final int LAST_DAY = 10000;
    private static final int LAST_BOOK_DAY = 100000;
    private static final long MOST_CENTS = 1000000000L;
    private static final long MOST_MEASURED = 100000000L;

    private final Hold hold;
    private final Yard yard;
    private final Gate door;
    private final Tariff tariff;
    private final RateReader reader;
    private final Quotas quotas;
    private final Securities securities;
    private final Ledger ledger;
    private final Declarations declarations;

    /** So many bays, tiers of them, rows of the yard, boxes one upon the other there, and what a ground bears. */
    public PortHouse(int bays, int tiers, int rows, int high, int bears) {
        hold = new Hold(heldTo(bays, 12), heldTo(tiers, 4));
        yard = new Yard(hold, heldTo(rows, 20), heldTo(high, 8), heldTo(bears, 400));
        door = new Gate(hold, yard);
        tariff = new Tariff();
        reader = new RateReader();
        quotas = new Quotas();
        securities = new Securities();
        ledger = new Ledger();
        declarations = new Declarations(tariff, quotas, securities, ledger, door);
    }

    private static int heldTo(int number, int most) {
        return Math.max(1, Math.min(number, most));
    }

    private static boolean within(long number, long least, long most) {
        return number >= least && number <= most;
    }

    private boolean isBay(int bay) {
        return within(bay, 0, hold.bays - 1);
    }

    private boolean isBox(int box) {
        return within(box, 0, hold.boxes - 1);
    }

    private boolean isYardRow(int row) {
        return within(row, 0, yard.rows - 1);
    }

    private boolean isMeasure(int row) {
        return within(row, 1, tariff.rows);
    }

    private boolean isOrder(int order) {
        return within(order, 0, quotas.orders - 1);
    }

    private boolean isGuarantee(int guarantee) {
        return within(guarantee, 1, securities.guarantees);
    }

    private boolean isBatch(int batch) {
        return within(batch, 0, ledger.batches - 1);
    }

    private boolean isDeclaration(int declaration) {
        return within(declaration, 0, declarations.size - 1);
    }

    private boolean isDeclarationIn(int declaration, int state) {
        return isDeclaration(declaration) && declarations.stateOf(declaration) == state;
    }

    private static boolean isDay(int day) {
        return within(day, 0, LAST_DAY);
    }

    private static boolean isLastDay(int day) {
        return isDay(day) || day == OPEN;
    }

    private static boolean isBookDay(int day) {
        return within(day, 0, LAST_BOOK_DAY);
    }

    // ---- A

    /** One more box on a stack: its number. */
    public int box(int bay, int stack, int port, int sort, int weight, int leaves, int ship)
            throws IllegalArgumentException, IllegalStateException {
        if (!isBay(bay) || !within(stack, 0, Hold.STACKS - 1) || !within(port, 0, 5)) {
            throw new IllegalArgumentException("no such place");
        }
        if (!within(sort, 0, 8) || !within(weight, 1, 40) || !within(leaves, 0, 1000) || !within(ship, 1, 9)) {
            throw new IllegalArgumentException("no such box");
        }
        if (hold.boxes >= Hold.BOXES || hold.lyingIn(bay) >= Hold.IN_BAY || hold.heightOf(bay, stack) >= hold.tiers) {
            throw new IllegalStateException("no room for a box");
        }
        return hold.add(bay, stack, port, sort, weight, leaves, ship);
    }

    /** A box goes ashore ahead of another one of its bay. */
    public boolean before(int box, int other) {
        return isBox(box) && isBox(other) && hold.addNeed(box, other);
    }

    /** The plan of a bay: how many moves. */
    public int plan(int bay) throws IllegalArgumentException {
        if (!isBay(bay)) {
            throw new IllegalArgumentException("no such bay");
        }
        return hold.makePlan(bay);
    }

    /** What a move of a bay's plan is. */
    public int move(int bay, int i, int what) throws IndexOutOfBoundsException {
        if (!isBay(bay) || !within(i, 0, hold.planLength[bay] - 1) || !within(what, 0, 3)) {
            throw new IndexOutOfBoundsException("no such move");
        }
        return hold.plannedMove(bay, i, what);
    }

    /** The next move of a bay's plan is done: how many are left. */
    public int work(int bay) throws IllegalArgumentException, IllegalStateException {
        if (!isBay(bay)) {
            throw new IllegalArgumentException("no such bay");
        }
        if (hold.movesLeft(bay) <= 0) {
            throw new IllegalStateException("no move is left");
        }
        int next = hold.planNext[bay];
        int box = hold.plannedMove(bay, next, 0);
        int to = hold.plannedMove(bay, next, 2);
        int row = to == Hold.ASHORE ? yard.bestRow(box) : 0;
        if (row == NONE) {
            return NONE;
        }
        hold.workNext(bay);
        if (to == Hold.ASHORE) {
            yard.bring(box, row);
        }
        return hold.movesLeft(bay);
    }

    /** The moves that a bay needs at least. */
    public int least(int bay) throws IllegalArgumentException {
        if (!isBay(bay)) {
            throw new IllegalArgumentException("no such bay");
        }
        return hold.boundOf(bay);
    }

    /** Two boxes of one port change places. */
    public int swap(int box, int other) throws IllegalArgumentException {
        if (!isBox(box) || !isBox(other)) {
            throw new IllegalArgumentException("no such box");
        }
        return hold.exchange(box, other) ? 1 : 0;
    }

    /** Where a box lies aboard. */
    public int aboard(int box, int what) throws IndexOutOfBoundsException {
        if (!isBox(box) || !within(what, 0, 3)) {
            throw new IndexOutOfBoundsException("no such box");
        }
        switch (what) {
            case 0:
                return hold.port[box];
            case 1:
                return hold.bay[box];
            case 2:
                return hold.stack[box];
            default:
                return hold.tier[box];
        }
    }

    // ---- B

    /** A row's ground. */
    public boolean ground(int row, int kind) {
        if (!isYardRow(row) || !within(kind, 0, 2) || yard.height[row] > 0) {
            return false;
        }
        yard.grounds[row] = kind;
        return true;
    }

    /** A row is reserved for a ship, or (0) for none. */
    public boolean reserve(int row, int ship) {
        if (!isYardRow(row) || !within(ship, 0, 9) || ship != 0 && yard.hasOtherShip(row, ship)) {
            return false;
        }
        yard.reserved[row] = ship;
        return true;
    }

    /** A box is put on a row. */
    public int put(int box, int row) throws IndexOutOfBoundsException {
        if (!isBox(box) || !isYardRow(row)) {
            throw new IndexOutOfBoundsException("no such box or row");
        }
        int broken = yard.brokenByPut(box, row);
        if (broken != 0) {
            return -broken;
        }
        yard.bring(box, row);
        return 1;
    }

    /** A box is taken away from the top of its row. */
    public int take(int box) throws IndexOutOfBoundsException {
        if (!isBox(box)) {
            throw new IndexOutOfBoundsException("no such box");
        }
        if (!yard.isOnTop(box)) {
            return 0;
        }
        yard.bring(box, NONE);
        return 1;
    }

    /** A box is shifted from the top of its row onto another one. */
    public int shift(int box, int row) throws IndexOutOfBoundsException {
        if (!isBox(box) || !isYardRow(row)) {
            throw new IndexOutOfBoundsException("no such box or row");
        }
        if (!yard.isOnTop(box)) {
            return 0;
        }
        int broken = yard.brokenByShift(box, row);
        if (broken != 0) {
            return -broken;
        }
        yard.bring(box, row);
        return 1;
    }

    /** The best row for a box that stands in none. */
    public int choose(int box) throws IndexOutOfBoundsException {
        if (!isBox(box)) {
            throw new IndexOutOfBoundsException("no such box");
        }
        return hold.isHere(box) && yard.rowOf[box] == NONE ? yard.bestRow(box) : NONE;
    }

    /** A night of so many moves. */
    public int night(int moves) throws IllegalArgumentException {
        if (!within(moves, 0, 50)) {
            throw new IllegalArgumentException("no such number of moves");
        }
        return yard.tidy(moves);
    }

    /** The latest move of the yard is undone: its box. */
    public int undo() {
        return yard.takeBack();
    }

    /** Where a box stands in the yard, and what it is. */
    public int where(int box, int what) throws IndexOutOfBoundsException {
        if (!isBox(box) || !within(what, 0, 8)) {
            throw new IndexOutOfBoundsException("no such box");
        }
        switch (what) {
            case 0:
                return yard.rowOf[box];
            case 1:
                return yard.levelOf[box];
            case 2:
                return yard.above(box);
            case 3:
                return yard.isInTheWay(box) ? 1 : 0;
            case 4:
                return hold.size[box];
            case 5:
                return hold.weight[box];
            case 6:
                return hold.leaves[box];
            case 7:
                return hold.ship[box];
            default:
                return hold.kind[box];
        }
    }

    /** The box of a row at a tier. */
    public int at(int row, int tier) throws IndexOutOfBoundsException {
        if (!isYardRow(row) || !within(tier, 0, yard.high - 1)) {
            throw new IndexOutOfBoundsException("no such row or tier");
        }
        return yard.boxAt(row, tier);
    }

    // ---- C

    /** Goods in a box: their number. */
    public int goods(int box, int kilograms) throws IllegalArgumentException, IllegalStateException {
        if (!isBox(box) || !within(kilograms, 1, door.roomIn(box))) {
            throw new IllegalArgumentException("no such goods");
        }
        if (door.goods >= Gate.GOODS) {
            throw new IllegalStateException("no more goods");
        }
        return door.addGoods(box, kilograms);
    }

    private boolean isBar(int source, int box, int kind) {
        return within(source, 0, Gate.SOURCES - 1) && isBox(box) && within(kind, 0, Gate.KINDS - 1);
    }

    /** A bar: its count. */
    public int bar(int source, int box, int kind, int right) throws IllegalArgumentException {
        if (!isBar(source, box, kind) || !within(right, 0, 15)) {
            throw new IllegalArgumentException("no such bar");
        }
        return door.addBar(box, source, kind, right);
    }

    /** A bar is lifted once: the count that is left. */
    public int lift(int source, int box, int kind, int rights) throws IllegalArgumentException {
        if (!isBar(source, box, kind) || !within(rights, 0, 65535)) {
            throw new IllegalArgumentException("no such bar");
        }
        return door.takeBar(box, source, kind, rights);
    }

    /** Two boxes are joined. */
    public int join(int box, int other) throws IllegalArgumentException {
        if (!isBox(box) || !isBox(other) || box == other) {
            throw new IllegalArgumentException("no such boxes");
        }
        return door.unite(box, other) ? 1 : 0;
    }

    /** A source's rule. */
    public boolean rule(int source, int does, int limit) {
        if (!within(source, 0, Gate.SOURCES - 1) || !within(does, 0, 4) || does == 1 && !within(limit, 0, 40000)) {
            return false;
        }
        door.rules[source] = does;
        door.limits[source] = limit;
        return true;
    }

    /** Whether nothing bars a box. */
    public int release(int box) throws IllegalArgumentException {
        if (!isBox(box)) {
            throw new IllegalArgumentException("no such box");
        }
        return door.askRelease(box) ? 1 : 0;
    }

    /** The i-th of what bars a box. */
    public int bars(int box, int i) throws IllegalArgumentException {
        if (!isBox(box)) {
            throw new IllegalArgumentException("no such box");
        }
        return door.barOfGroup(box, i);
    }

    /** Some kilograms of a box are released. */
    public int part(int box, int kilograms) throws IllegalArgumentException {
        if (!isBox(box) || kilograms < 1) {
            throw new IllegalArgumentException("no such part");
        }
        return door.releasePart(box, kilograms);
    }

    /** All that is released of a box is withdrawn. */
    public int withdraw(int box) throws IllegalArgumentException {
        if (!isBox(box)) {
            throw new IllegalArgumentException("no such box");
        }
        return door.takeBackRelease(box);
    }

    /** A box goes out by the gate. */
    public int gate(int box) throws IllegalArgumentException {
        if (!isBox(box)) {
            throw new IllegalArgumentException("no such box");
        }
        return door.letOut(box) ? 1 : 0;
    }

    /** A box goes away under bond, or comes back. */
    public boolean away(int box, int rights, boolean goes) {
        return isBox(box) && (rights >> 15 & 1) == 1 && door.bond(box, goes);
    }

    /** The i-th notice that is kept. */
    public int notice(int i) {
        return door.keptNotice(i);
    }

    /** What the gate knows of a box. */
    public int look(int box, int what) throws IndexOutOfBoundsException {
        if (!isBox(box) || !within(what, 0, 5)) {
            throw new IndexOutOfBoundsException("no such box");
        }
        switch (what) {
            case 0:
                return hold.stay[box];
            case 1:
                return door.released[box];
            case 2:
                return door.ownBars(box);
            case 3:
                return door.goodsIn[box];
            case 4:
                return door.leader[box];
            default:
                return door.groupSize(box);
        }
    }

    // ---- D

    private static boolean isCode(int code) {
        return within(code, 10, 99) || within(code, 1000, 9999) || isFullCode(code);
    }

    private static boolean isFullCode(int code) {
        return within(code, 100000, 999999);
    }

    private static boolean isLand(int land) {
        return within(land, 0, Tariff.LANDS - 1);
    }

    /** A land or group becomes a member of a group. */
    public boolean member(int group, int land) {
        return within(group, Tariff.LANDS, Tariff.AREAS - 1) && within(land, 0, Tariff.AREAS - 1)
                && tariff.addMember(group, land);
    }

    /** A row that becomes known on a day: its number. */
    public int row(int code, int land, int from, int to, int kind, int rank, int known)
            throws IllegalArgumentException, IllegalStateException {
        if (!isCode(code) || !within(land, 0, Tariff.AREAS - 1) && land != ALL) {
            throw new IllegalArgumentException("no such code or land");
        }
        if (!isDay(from) || !isLastDay(to) || to < from || !isDay(known)) {
            throw new IllegalArgumentException("no such days");
        }
        if (!within(kind, 0, Tariff.KINDS - 1) || !within(rank, 0, 9)) {
            throw new IllegalArgumentException("no such kind or rank");
        }
        if (tariff.rows >= Tariff.ROWS) {
            throw new IllegalStateException("no more rows");
        }
        return tariff.addRow(code, land, from, to, kind, rank, known);
    }

    /** A land is excluded from a row. */
    public boolean exclude(int row, int land) {
        return isMeasure(row) && isLand(land) && Tariff.addOneOfFour(tariff.excluded, row, land);
    }

    /** A paper is wanted by a row. */
    public boolean condition(int row, int paper) {
        return isMeasure(row) && within(paper, 0, 15) && Tariff.addOneOfFour(tariff.wanted, row, paper);
    }

    /** A last day is told for a row: how many were told of it. */
    public int end(int row, int day, int known)
            throws IndexOutOfBoundsException, IllegalArgumentException, IllegalStateException {
        if (!isMeasure(row)) {
            throw new IndexOutOfBoundsException("no such row");
        }
        if (!isLastDay(day) || !isDay(known)) {
            throw new IllegalArgumentException("no such days");
        }
        if (tariff.ends[row] >= Tariff.ENDS) {
            throw new IllegalStateException("no more last days");
        }
        return day < tariff.from[row] ? 0 : tariff.addEnd(row, day, known);
    }

    /** The papers that are there, as bits. */
    public void papers(int bits) {
        tariff.present = bits & 0xFFFF;
    }

    /** How many rows apply; they are listed then. */
    public int apply(int code, int land, int day, int known) throws IllegalArgumentException {
        if (!isFullCode(code) || !isLand(land) || !isDay(day) || !isDay(known)) {
            throw new IllegalArgumentException("no such code, land or day");
        }
        tariff.find(code, land, day, known);
        return tariff.keepList();
    }

    /** The i-th row of the latest list. */
    public int listed(int i) {
        return within(i, 0, tariff.keptSize - 1) ? tariff.kept[i] : NONE;
    }

    // ---- E

    /** The lowest bytes of a word come behind the tape. */
    public boolean type(long word, int n) {
        return within(n, 1, 8) && reader.addSigns(word, n);
    }

    /** The tape is the rate of a row: how many nodes it has. */
    public int rate(int row) throws IllegalArgumentException {
        if (!isMeasure(row)) {
            reader.emptyTape();
            throw new IllegalArgumentException("no such row");
        }
        Rate read = reader.readTape();
        reader.emptyTape();
        if (read == null) {
            return -1 - reader.badPlace;
        }
        tariff.rates[row] = read;
        return read.nodes;
    }

    private Rate rateOf(int row) {
        return isMeasure(row) ? tariff.rates[row] : null;
    }

    /** What a node of a row's rate is. */
    public int node(int row, int i, int what) throws IndexOutOfBoundsException {
        Rate rate = rateOf(row);
        if (rate == null || !within(i, 0, rate.nodes - 1) || !within(what, 0, 5)) {
            throw new IndexOutOfBoundsException("no such node");
        }
        return rate.fact(i, what);
    }

    /** A row's rate is printed: how many signs. */
    public int print(int row) throws IllegalArgumentException {
        Rate rate = rateOf(row);
        if (rate == null) {
            throw new IllegalArgumentException("no such rate");
        }
        return reader.printRate(rate);
    }

    /** A sign of what was printed last. */
    public int printed(int i) throws IndexOutOfBoundsException {
        if (!within(i, 0, reader.printedSize - 1)) {
            throw new IndexOutOfBoundsException("no such sign");
        }
        return reader.printedSigns[i];
    }

    /** The value of a row's rate in micros, at a price, with an amount of one unit. */
    public long worth(int row, long price, int unit, long amount)
            throws IllegalArgumentException, UnsupportedOperationException {
        Rate rate = rateOf(row);
        if (rate == null || !within(price, 0, MOST_MEASURED) || !within(unit, 0, Rate.UNITS - 1)
                || !within(amount, 0, MOST_MEASURED)) {
            throw new IllegalArgumentException("no such rate, price or amount");
        }
        if ((rate.units & ~(1 << unit)) != 0) {
            throw new UnsupportedOperationException("a unit has no amount");
        }
        return declarations.valueWithOne(rate, price, unit, amount);
    }

    // ---- F

    /** An order: its number. */
    public int order(long volume, int from, int to) throws IllegalArgumentException, IllegalStateException {
        if (!within(volume, 1, Quotas.MOST_VOLUME) || !within(from, 0, Quotas.LAST) || !within(to, from, Quotas.LAST)) {
            throw new IllegalArgumentException("no such volume or span");
        }
        if (quotas.orders >= Quotas.ORDERS) {
            throw new IllegalStateException("no more orders");
        }
        return quotas.addOrder(volume, from, to);
    }

    /** An order is run up to a day: how many asks got something. */
    public int run(int order, int day) throws IndexOutOfBoundsException, IllegalArgumentException {
        if (!isOrder(order)) {
            throw new IndexOutOfBoundsException("no such order");
        }
        if (!within(day, 0, Quotas.LAST) || day <= quotas.runDay[order]) {
            throw new IllegalArgumentException("no day to run up to");
        }
        return quotas.runTo(order, day);
    }

    /** A day of an order's span is blocked, or not any more. */
    public boolean block(int order, int day, boolean on) throws IndexOutOfBoundsException {
        if (!isOrder(order)) {
            throw new IndexOutOfBoundsException("no such order");
        }
        return quotas.isInSpan(order, day) && quotas.setBlocked(order, day, on);
    }

    /** Volume goes from an order to another one. */
    public boolean transfer(int order, int to, long volume) throws IndexOutOfBoundsException {
        if (!isOrder(order) || !isOrder(to)) {
            throw new IndexOutOfBoundsException("no such order");
        }
        return quotas.carryOver(order, to, volume);
    }

    /** The balance of an order at the end of a day. */
    public long balance(int order, int day) throws IndexOutOfBoundsException, IllegalArgumentException {
        if (!isOrder(order)) {
            throw new IndexOutOfBoundsException("no such order");
        }
        if (!within(day, quotas.from[order], quotas.runDay[order])) {
            throw new IllegalArgumentException("no day of the course");
        }
        return quotas.balanceAt(order, day);
    }

    /** What an order is. */
    public long quota(int order, int what) throws IndexOutOfBoundsException {
        if (!isOrder(order) || !within(what, 0, 4)) {
            throw new IndexOutOfBoundsException("no such order");
        }
        switch (what) {
            case 0:
                return quotas.volume[order];
            case 1:
                return quotas.runDay[order];
            case 2:
                return quotas.blockedDays(order);
            case 3:
                return quotas.waiting(order);
            default:
                return quotas.isCritical(order) ? 1 : 0;
        }
    }

    // ---- G

    /** A guarantee, from today on: its number. */
    public int guarantee(int holder, long amount, int up, int down, boolean single, int rate)
            throws IllegalArgumentException, IllegalStateException {
        if (!isHolder(holder) || !within(amount, 1, MOST_CENTS)) {
            throw new IllegalArgumentException("no such holder or amount");
        }
        if (!within(down, 1, 100) || !within(up, 0, down) || !within(rate, 0, 1000)) {
            throw new IllegalArgumentException("no such share or rate");
        }
        if (securities.guarantees >= Securities.GUARANTEES) {
            throw new IllegalStateException("no more guarantees");
        }
        return securities.addGuarantee(holder, amount, up, down, single, rate);
    }

    private static boolean isHolder(int holder) {
        return within(holder, 0, Securities.HOLDERS - 1);
    }

    private static boolean isDesk(int desk) {
        return within(desk, 0, Securities.DESKS - 1);
    }

    /** A guarantee goes first of its holder's. */
    public boolean first(int guarantee) {
        return isGuarantee(guarantee) && securities.moveToFront(guarantee);
    }

    /** A guarantee is closed. */
    public boolean shut(int guarantee) {
        return isGuarantee(guarantee) && securities.closeOne(guarantee);
    }

    /** A desk fails, or not. */
    public boolean fails(int desk, boolean on) {
        if (!isDesk(desk) || securities.deskFails[desk] == on) {
            return false;
        }
        securities.deskFails[desk] = on;
        return true;
    }

    /** It is a day. */
    public boolean tick(int day) {
        if (!within(day, securities.today, LAST_BOOK_DAY)) {
            return false;
        }
        securities.today = day;
        return true;
    }

    /** The interest of a guarantee. */
    public long interest(int guarantee) throws IllegalArgumentException {
        if (!isGuarantee(guarantee)) {
            throw new IllegalArgumentException("no such guarantee");
        }
        return securities.interestOf(guarantee);
    }

    /** What all of a holder's guarantees may cover together. */
    public long free(int holder) {
        return isHolder(holder) ? securities.freeOf(holder) : NONE;
    }

    /** The i-th guarantee of a holder in its order. */
    public int list(int holder, int i) {
        return isHolder(holder) && within(i, 0, securities.held[holder] - 1) ? securities.inTurn(holder, i) : NONE;
    }

    /** What a guarantee is. */
    public long security(int guarantee, int what) throws IndexOutOfBoundsException {
        if (!isGuarantee(guarantee) || !within(what, 0, 8)) {
            throw new IndexOutOfBoundsException("no such guarantee");
        }
        return securities.fact(guarantee, what);
    }

    /** What a reservation is. */
    public long reservation(int reservation, int what) throws IndexOutOfBoundsException {
        if (!within(reservation, 1, securities.reservations) || !securities.hasFact(reservation, what)) {
            throw new IndexOutOfBoundsException("no such reservation");
        }
        return securities.factOfReservation(reservation, what);
    }

    /** A batch is begun: its number. */
    public int batch(int valid, int known) throws IllegalArgumentException, IllegalStateException {
        if (!isBookDay(valid) || !isBookDay(known)) {
            throw new IllegalArgumentException("no such days");
        }
        if (ledger.batches >= Ledger.BATCHES) {
            throw new IllegalStateException("no more batches");
        }
        return ledger.begin(valid, known);
    }

    private boolean isOpenBatch(int batch) {
        return isBatch(batch) && ledger.stateOf(batch) == Ledger.IS_OPEN;
    }

    private static boolean isAccount(int account) {
        return within(account, 0, Ledger.ACCOUNTS - 1);
    }

    /** An entry of a batch. */
    public boolean entry(int batch, int account, long cents) {
        return isOpenBatch(batch) && isAccount(account) && within(cents, -MOST_CENTS, MOST_CENTS) && cents != 0
                && ledger.addEntry(batch, account, cents);
    }

    /** A batch is told to fail, or not to. */
    public boolean failing(int batch, boolean is) {
        if (!isOpenBatch(batch)) {
            return false;
        }
        ledger.setFailing(batch, is);
        return true;
    }

    /** Posts a batch. */
    public int post(int batch) throws IllegalArgumentException, IllegalStateException, UnsupportedOperationException {
        if (!isOpenBatch(batch)) {
            throw new IllegalArgumentException("no such batch");
        }
        if (ledger.voidIfWrong(batch)) {
            throw new IllegalStateException("the batch is void");
        }
        if (ledger.failIfTold(batch)) {
            throw new UnsupportedOperationException("the batch failed");
        }
        ledger.enter(batch);
        return 1;
    }

    /** Reverses a batch: the number of the reversal. */
    public int reverse(int batch, int known) throws IllegalArgumentException, IllegalStateException {
        if (!isBatch(batch) || ledger.stateOf(batch) != Ledger.IS_POSTED || !isBookDay(known)) {
            throw new IllegalArgumentException("no such batch or day");
        }
        if (!ledger.mayBeReversed(batch) || !ledger.wouldTake(ledger.entriesOf(batch), known)) {
            throw new IllegalStateException("no reversal can be");
        }
        return ledger.turn(batch, known);
    }

    /** Closes a day. */
    public boolean close(int day) {
        if (!isBookDay(day) || day <= ledger.closed) {
            return false;
        }
        ledger.closed = day;
        return true;
    }

    /** The balance of an account. */
    public long account(int account, int day, int known) throws IllegalArgumentException {
        if (!isAccount(account) || !isBookDay(day) || !isBookDay(known)) {
            throw new IllegalArgumentException("no such account or day");
        }
        return ledger.sum(account, 0, day, known);
    }

    /** The statement of an account's month. */
    public long statement(int account, int month, int known) throws IllegalArgumentException {
        if (!isAccount(account) || !within(month, 0, 3333) || !isBookDay(known)) {
            throw new IllegalArgumentException("no such account, month or day");
        }
        return ledger.sum(account, 30 * month, 30 * month + 29, known);
    }

    private static boolean isAccountKind(int kind) {
        return within(kind, 0, Ledger.KINDS - 1);
    }

    /** A receiver's part of a kind of account. */
    public boolean share(int kind, int receiver, int part) {
        if (!isAccountKind(kind) || !within(receiver, 0, Ledger.RECEIVERS - 1) || !within(part, 0, 1000)) {
            return false;
        }
        ledger.parts[kind * Ledger.RECEIVERS + receiver] = part;
        return true;
    }

    /** What collecting a kind costs. */
    public boolean cost(int kind, int thousandths) {
        if (!isAccountKind(kind) || !within(thousandths, 0, 1000)) {
            return false;
        }
        ledger.costs[kind] = thousandths;
        return true;
    }

    /** What is passed on of a kind of account. */
    public long passed(int kind, int what, int known) throws IllegalArgumentException {
        if (!isAccountKind(kind) || !within(what, 0, 6) || !isBookDay(known)) {
            throw new IllegalArgumentException("no such kind, day or what");
        }
        return ledger.passedOn(kind, what, known);
    }

    /** What an entry of the ledger is. */
    public long read(int i, int what) throws IndexOutOfBoundsException {
        if (!within(i, 0, ledger.booked - 1) || !within(what, 0, 4)) {
            throw new IndexOutOfBoundsException("no such entry");
        }
        return ledger.factOfEntry(i, what);
    }

    /** What a batch is. */
    public int batchOf(int batch, int what) throws IndexOutOfBoundsException {
        if (!isBatch(batch) || !within(what, 0, Ledger.FACTS - 1)) {
            throw new IndexOutOfBoundsException("no such batch");
        }
        return ledger.fact(batch, what);
    }

    // ---- H

    /** A declaration: its number. */
    public int declare(int goods, int holder, int desk, int code, int land, int day, long price)
            throws IllegalArgumentException, IllegalStateException {
        if (!within(goods, 0, door.goods - 1) || !isHolder(holder) || !isDesk(desk)) {
            throw new IllegalArgumentException("no such goods, holder or desk");
        }
        if (!isFullCode(code) || !isLand(land) || !isDay(day) || !within(price, 0, MOST_MEASURED)) {
            throw new IllegalArgumentException("no such code, land, day or price");
        }
        if (declarations.isTaken[goods] || declarations.size >= Declarations.MOST) {
            throw new IllegalStateException("no declaration can be");
        }
        return declarations.add(goods, holder, desk, code, land, day, price);
    }

    /** An amount of a unit of a declaration, or none any more. */
    public boolean amount(int declaration, int unit, long thousandths) {
        if (!isDeclarationIn(declaration, Declarations.DECLARED) || !within(unit, 0, Rate.UNITS - 1)
                || !within(thousandths, NONE, MOST_MEASURED)) {
            return false;
        }
        declarations.setAmount(declaration, unit, thousandths);
        return true;
    }

    /** An ask of a declaration. */
    public int ask(int declaration, int order, long amount)
            throws IllegalArgumentException, IndexOutOfBoundsException, IllegalStateException {
        if (!isDeclarationIn(declaration, Declarations.DECLARED) || !within(amount, 1, Quotas.MOST_ASKED)) {
            throw new IllegalArgumentException("no such declaration or amount");
        }
        if (!isOrder(order)) {
            throw new IndexOutOfBoundsException("no such order");
        }
        if (declarations.askOf[declaration] != NONE) {
            throw new IllegalStateException("it has an ask");
        }
        return declarations.addAsk(declaration, order, amount) ? 1 : 0;
    }

    /** Another amount of an ask: how many asks of the order have something else then. */
    public int again(int declaration, long amount) throws IllegalArgumentException {
        if (!isDeclaration(declaration) || declarations.stateOf(declaration) == Declarations.CANCELLED
                || declarations.askOf[declaration] == NONE || !within(amount, 1, Quotas.MOST_ASKED)) {
            throw new IllegalArgumentException("no such ask or amount");
        }
        return quotas.changeAsk(declarations.askOf[declaration], amount);
    }

    /** The duty of a declaration, as known on a day. */
    public long duty(int declaration, int known) throws IllegalArgumentException, UnsupportedOperationException {
        if (!isDeclaration(declaration) || !isDay(known)) {
            throw new IllegalArgumentException("no such declaration or day");
        }
        long duty = declarations.reckon(declaration, known);
        if (duty == NONE) {
            throw new UnsupportedOperationException("no duty can be reckoned");
        }
        return duty;
    }

    /** A declaration is assessed: its duty. */
    public long assess(int declaration, int known) throws IllegalArgumentException, UnsupportedOperationException {
        if (!isDeclarationIn(declaration, Declarations.DECLARED) || !isDay(known)) {
            throw new IllegalArgumentException("no such declaration or day");
        }
        long duty = declarations.reckon(declaration, known);
        if (duty == NONE) {
            throw new UnsupportedOperationException("no duty can be reckoned");
        }
        return declarations.secure(declaration, duty);
    }

    /** A declaration is paid: the batch. */
    public int pay(int declaration, int known) throws IllegalArgumentException, IllegalStateException {
        if (!isDeclarationIn(declaration, Declarations.SECURED) || !isBookDay(known)) {
            throw new IllegalArgumentException("no such declaration or day");
        }
        if (declarations.dutyOf(declaration) != 0 && !ledger.wouldTake(2, known)) {
            throw new IllegalStateException("no batch can be posted");
        }
        return declarations.settle(declaration, known);
    }

    /** A declaration's reservation is claimed: by how much amounts got less. */
    public long claim(int declaration, int known) throws IllegalArgumentException, IllegalStateException {
        if (!isDeclarationIn(declaration, Declarations.SECURED) || declarations.dutyOf(declaration) <= 0
                || !isBookDay(known)) {
            throw new IllegalArgumentException("no such declaration or day");
        }
        if (!ledger.wouldTake(declarations.claimEntries(declaration), known)) {
            throw new IllegalStateException("no batch can be posted");
        }
        return declarations.callIn(declaration, known);
    }

    /** A declaration is corrected: by how much its duty is more. */
    public long correct(int declaration, int known)
            throws IllegalArgumentException, UnsupportedOperationException, IllegalStateException {
        boolean booked = isDeclarationIn(declaration, Declarations.PAID)
                || isDeclarationIn(declaration, Declarations.CLAIMED);
        if (!booked || !isDay(known)) {
            throw new IllegalArgumentException("no such declaration or day");
        }
        long duty = declarations.reckon(declaration, known);
        if (duty == NONE) {
            throw new UnsupportedOperationException("no duty can be reckoned");
        }
        if (duty != declarations.dutyOf(declaration) && !ledger.wouldTake(2, known)) {
            throw new IllegalStateException("no batch can be posted");
        }
        return declarations.setRight(declaration, duty, known);
    }

    /** A declaration is cancelled. */
    public int cancel(int declaration) throws IllegalArgumentException {
        if (!isDeclaration(declaration)) {
            throw new IllegalArgumentException("no such declaration");
        }
        return declarations.giveUp(declaration) ? 1 : 0;
    }

    /** What a declaration is. */
    public long declared(int declaration, int what) throws IndexOutOfBoundsException {
        if (!isDeclaration(declaration) || !within(what, 0, Declarations.FACTS - 1)) {
            throw new IndexOutOfBoundsException("no such declaration");
        }
        return declarations.fact(declaration, what);
    }

    /** How many of something there are. */
    public int count(int what) {
        if (within(what, 0, 10)) {
            return countOfPort(what);
        }
        if (within(what, 11, 19)) {
            return countOfCustoms(what);
        }
        if (within(what, 20, 27)) {
            return countOfSecurities(what);
        }
        if (within(what, 28, 34)) {
            return countOfLedger(what);
        }
        if (within(what, 35, 40)) {
            return what == 35 ? declarations.size : declarations.inState(what - 36);
        }
        return countOfOne(what / 100, what % 100);
    }

    private int countOfPort(int what) {
        switch (what) {
            case 0:
                return hold.boxes;
            case 1:
                return hold.countIn(Hold.ASHORE);
            case 2:
                return hold.countIn(Hold.ASIDE);
            case 3:
                return hold.worked;
            case 4:
                return yard.standing();
            case 5:
                return yard.made;
            case 6:
                return yard.keptMoves;
            case 7:
                return yard.inTheWay();
            case 8:
                return door.goods;
            case 9:
                return door.told;
            default:
                return hold.countStaying(Hold.BEHIND);
        }
    }

    private int countOfCustoms(int what) {
        switch (what) {
            case 15:
                return tariff.rows;
            case 16:
                return tariff.keptSize;
            case 17:
                return reader.tapeSize;
            case 18:
                return reader.printedSize;
            case 19:
                return quotas.orders;
            default:
                return door.failures[what - 11];
        }
    }

    private int countOfSecurities(int what) {
        switch (what) {
            case 20:
                return securities.guarantees;
            case 21:
                return securities.reservations;
            case 22:
                return securities.live;
            case 23:
                return securities.today;
            default:
                return securities.failures[what - 24];
        }
    }

    private int countOfLedger(int what) {
        switch (what) {
            case 28:
                return ledger.batches;
            case 29:
                return ledger.booked;
            case 30:
                return ledger.closed;
            case 31:
                return ledger.latest;
            case 32:
                return ledger.wrong;
            case 33:
                return ledger.named;
            default:
                return ledger.failed;
        }
    }

    private int countOfOne(int of, int which) {
        if (of == 1) {
            return isBay(which) ? hold.movesLeft(which) : NONE;
        }
        if (of == 6) {
            return within(which, Tariff.LANDS, Tariff.AREAS - 1) ? Integer.bitCount(tariff.landsIn(which)) : NONE;
        }
        if (!isYardRow(which)) {
            return NONE;
        }
        switch (of) {
            case 2:
                return yard.height[which];
            case 3:
                return yard.weightOf(which);
            case 4:
                return yard.grounds[which];
            case 5:
                return yard.reserved[which];
            default:
                return NONE;
        }
    }

    /** Boxes, the bays they lie in, and the plans of these. */
    private static final class Hold {
        static final int BOXES = 100;
        static final int STACKS = 3;
        static final int IN_BAY = 4;
        static final int ASHORE = 3;
        static final int ASIDE = 4;
        static final int BEHIND = 1;
        static final int AWAY = 2;

        final int bays;
        final int tiers;
        int boxes;
        int worked;
        final int[] port = new int[BOXES];
        final int[] kind = new int[BOXES];
        final int[] size = new int[BOXES];
        final int[] weight = new int[BOXES];
        final int[] leaves = new int[BOXES];
        final int[] ship = new int[BOXES];
        final int[] bay = new int[BOXES];
        final int[] stack = new int[BOXES];
        final int[] tier = new int[BOXES];
        final int[] stay = new int[BOXES];
        final int[] planLength;
        final int[] planNext;
        private final int[] planMoves;
        private final boolean[] needs = new boolean[BOXES * BOXES];
        private final int[] local = new int[IN_BAY];
        private final Planner planner = new Planner();

        Hold(int bays, int tiers) {
            this.bays = bays;
            this.tiers = tiers;
            planLength = new int[bays];
            planNext = new int[bays];
            planMoves = new int[bays * Planner.LONGEST];
            Arrays.fill(planLength, NONE);
        }

        boolean isHere(int box) {
            return stack[box] == ASHORE && stay[box] == 0;
        }

        private boolean isLeaving(int box) {
            return port[box] == 0 && stack[box] != ASHORE;
        }

        int countIn(int place) {
            int n = 0;
            for (int b = 0; b < boxes; b++) {
                n += stack[b] == place ? 1 : 0;
            }
            return n;
        }

        int countStaying(int how) {
            int n = 0;
            for (int b = 0; b < boxes; b++) {
                n += stay[b] == how ? 1 : 0;
            }
            return n;
        }

        int lyingIn(int inBay) {
            int n = 0;
            for (int b = 0; b < boxes; b++) {
                n += bay[b] == inBay && stack[b] != ASHORE ? 1 : 0;
            }
            return n;
        }

        int heightOf(int inBay, int onStack) {
            int n = 0;
            for (int b = 0; b < boxes; b++) {
                n += bay[b] == inBay && stack[b] == onStack ? 1 : 0;
            }
            return n;
        }

        int add(int inBay, int onStack, int toPort, int sort, int weighs, int day, int liner) {
            int box = boxes;
            tier[box] = heightOf(inBay, onStack);
            bay[box] = inBay;
            stack[box] = onStack;
            port[box] = toPort;
            kind[box] = sort / 3;
            size[box] = sort % 3 + 1;
            weight[box] = weighs;
            leaves[box] = day;
            ship[box] = liner;
            boxes++;
            planLength[inBay] = NONE;
            return box;
        }

        private boolean isNeeded(int box, int other) {
            return needs[box * BOXES + other];
        }

        boolean addNeed(int box, int other) {
            boolean may = bay[box] == bay[other] && isLeaving(box) && isLeaving(other) && !isNeeded(box, other);
            if (!may || isAheadOf(other, box)) {
                return false;
            }
            needs[box * BOXES + other] = true;
            planLength[bay[box]] = NONE;
            return true;
        }

        // A box goes ashore behind those ahead of it: no way between two that still lie there leads over one ashore.
        private boolean isAheadOf(int box, int other) {
            int n = gather(bay[box]);
            int reached = 1 << indexOf(box, n);
            for (int round = 0; round < n; round++) {
                for (int i = 0; i < n; i++) {
                    if ((reached >> i & 1) == 1) {
                        reached |= behind(i, n);
                    }
                }
            }
            return (reached >> indexOf(other, n) & 1) == 1;
        }

        private int behind(int i, int n) {
            int mask = 0;
            for (int j = 0; j < n; j++) {
                mask |= isNeeded(local[i], local[j]) ? 1 << j : 0;
            }
            return mask;
        }

        private int ahead(int i, int n) {
            int mask = 0;
            for (int j = 0; j < n; j++) {
                mask |= isNeeded(local[j], local[i]) ? 1 << j : 0;
            }
            return mask;
        }

        private int gather(int inBay) {
            int n = 0;
            for (int b = 0; b < boxes && n < IN_BAY; b++) {
                if (bay[b] == inBay && stack[b] != ASHORE) {
                    local[n] = b;
                    n++;
                }
            }
            return n;
        }

        private int indexOf(int box, int n) {
            for (int i = 0; i < n; i++) {
                if (local[i] == box) {
                    return i;
                }
            }
            return n;
        }

        int makePlan(int inBay) {
            int n = gather(inBay);
            for (int i = 0; i < n; i++) {
                int box = local[i];
                int place = stack[box] == ASIDE ? Planner.ASIDE_PLACE : Planner.placeOf(stack[box], tier[box]);
                planner.set(i, place, port[box] == 0, ahead(i, n));
            }
            int length = planner.search(n, tiers);
            for (int i = 0; i < length; i++) {
                int found = planner.found[i];
                planMoves[inBay * Planner.LONGEST + i] = local[found >> 6] * 64 + (found & 63);
            }
            planLength[inBay] = length;
            planNext[inBay] = 0;
            return length;
        }

        int plannedMove(int inBay, int i, int what) {
            int packed = planMoves[inBay * Planner.LONGEST + i];
            switch (what) {
                case 0:
                    return packed >> 6;
                case 1:
                    return packed >> 3 & 7;
                case 2:
                    return packed & 7;
                default:
                    return i < planNext[inBay] ? 1 : 0;
            }
        }

        int movesLeft(int inBay) {
            return planLength[inBay] == NONE ? NONE : planLength[inBay] - planNext[inBay];
        }

        void workNext(int inBay) {
            int box = plannedMove(inBay, planNext[inBay], 0);
            int to = plannedMove(inBay, planNext[inBay], 2);
            tier[box] = to < STACKS ? heightOf(inBay, to) : NONE;
            stack[box] = to;
            planNext[inBay]++;
            worked++;
        }

        int boundOf(int inBay) {
            int n = 0;
            for (int b = 0; b < boxes; b++) {
                if (bay[b] == inBay && stack[b] != ASHORE) {
                    n += port[b] == 0 || liesAboveLeaving(b) ? 1 : 0;
                }
            }
            return n;
        }

        private boolean liesAboveLeaving(int box) {
            for (int b = 0; b < boxes; b++) {
                if (bay[b] == bay[box] && stack[b] == stack[box] && tier[b] < tier[box] && port[b] == 0) {
                    return true;
                }
            }
            return false;
        }

        private boolean hasNeeds(int box) {
            for (int b = 0; b < boxes; b++) {
                if (isNeeded(box, b) || isNeeded(b, box)) {
                    return true;
                }
            }
            return false;
        }

        private boolean isInStack(int box) {
            return stack[box] < STACKS;
        }

        boolean exchange(int box, int other) {
            boolean may = box != other && port[box] == port[other] && isInStack(box) && isInStack(other);
            if (!may || hasNeeds(box) || hasNeeds(other)) {
                return false;
            }
            planLength[bay[box]] = NONE;
            planLength[bay[other]] = NONE;
            change(bay, box, other);
            change(stack, box, other);
            change(tier, box, other);
            return true;
        }

        private static void change(int[] column, int i, int j) {
            int was = column[i];
            column[i] = column[j];
            column[j] = was;
        }
    }

    /** Finds the first of the shortest orders of moves for the few boxes of a bay, breadth first. */
    private static final class Planner {
        static final int LONGEST = 16;
        static final int ASHORE_PLACE = 12;
        static final int ASIDE_PLACE = 13;
        private static final int STATES = 1300;

        final int[] found = new int[LONGEST];
        private final int[] seen = new int[65536];
        private final int[] codes = new int[STATES];
        private final int[] parents = new int[STATES];
        private final int[] moves = new int[STATES];
        private final int[] place = new int[Hold.IN_BAY];
        private final boolean[] leaves = new boolean[Hold.IN_BAY];
        private final int[] ahead = new int[Hold.IN_BAY];
        private final int[] height = new int[Hold.STACKS];
        private final int[] top = new int[Hold.STACKS];
        private int round;
        private int size;
        private int boxes;
        private int tiers;
        private int ashore;
        private int goal;

        static int placeOf(int stack, int tier) {
            return stack * 4 + tier;
        }

        void set(int i, int at, boolean isLeaving, int mask) {
            place[i] = at;
            leaves[i] = isLeaving;
            ahead[i] = mask;
        }

        int search(int n, int high) {
            boxes = n;
            tiers = high;
            round++;
            int code = 0;
            for (int i = 0; i < n; i++) {
                code |= place[i] << 4 * i;
            }
            seen[code] = round;
            codes[0] = code;
            parents[0] = NONE;
            size = 1;
            goal = isEnd(code) ? 0 : NONE;
            for (int i = 0; i < STATES && i < size && goal == NONE; i++) {
                goOnFrom(i);
            }
            return goal == NONE ? NONE : trace();
        }

        // States are reached in the order of their first ways, so the first end that is reached has the first way.
        private void reach(int state, int i, int from, int to, int at) {
            int code = codes[state] & ~(15 << 4 * i) | at << 4 * i;
            if (goal != NONE || seen[code] == round || size >= STATES) {
                return;
            }
            seen[code] = round;
            codes[size] = code;
            parents[size] = state;
            moves[size] = i * 64 + from * 8 + to;
            if (isEnd(code)) {
                goal = size;
            }
            size++;
        }

        private boolean isEnd(int code) {
            for (int i = 0; i < boxes; i++) {
                int at = code >> 4 * i & 15;
                if (at == ASIDE_PLACE || leaves[i] && at != ASHORE_PLACE) {
                    return false;
                }
            }
            return true;
        }

        private void goOnFrom(int state) {
            readState(codes[state]);
            for (int from = 0; from < Hold.STACKS; from++) {
                if (height[from] > 0) {
                    goFromStack(state, from);
                }
            }
            int from = Hold.STACKS;
            for (int i = 0; i < boxes; i++) {
                if (place[i] == ASIDE_PLACE) {
                    goToStacks(state, i, from, NONE);
                    from++;
                }
            }
        }

        private void readState(int code) {
            Arrays.fill(height, 0);
            ashore = 0;
            for (int i = 0; i < boxes; i++) {
                place[i] = code >> 4 * i & 15;
                if (place[i] == ASHORE_PLACE) {
                    ashore |= 1 << i;
                } else if (place[i] < ASHORE_PLACE) {
                    noteHeight(i, place[i] / 4, place[i] % 4 + 1);
                }
            }
        }

        private void noteHeight(int i, int stack, int reaches) {
            if (reaches > height[stack]) {
                height[stack] = reaches;
                top[stack] = i;
            }
        }

        private void goFromStack(int state, int from) {
            int i = top[from];
            goToStacks(state, i, from, from);
            if (leaves[i] && (ahead[i] & ~ashore) == 0) {
                reach(state, i, from, Hold.ASHORE, ASHORE_PLACE);
            }
            reach(state, i, from, Hold.ASIDE, ASIDE_PLACE);
        }

        private void goToStacks(int state, int i, int from, int own) {
            for (int to = 0; to < Hold.STACKS; to++) {
                if (to != own && height[to] < tiers) {
                    reach(state, i, from, to, placeOf(to, height[to]));
                }
            }
        }

        private int trace() {
            int length = 0;
            for (int s = goal; s > 0 && length < STATES; s = parents[s]) {
                length++;
            }
            if (length > LONGEST) {
                return NONE;
            }
            int s = goal;
            for (int i = length - 1; i >= 0; i--) {
                found[i] = moves[s];
                s = parents[s];
            }
            return length;
        }
    }

    /** The rows of the yard, and its latest moves. */
    private static final class Yard {
        private static final int KEPT = 100;

        private final Hold hold;
        final int rows;
        final int high;
        private final int bears;
        final int[] height;
        final int[] grounds;
        final int[] reserved;
        private final int[] cells;
        final int[] rowOf = new int[Hold.BOXES];
        final int[] levelOf = new int[Hold.BOXES];
        private final int[] movedBox = new int[KEPT];
        private final int[] movedFrom = new int[KEPT];
        private int nextKept;
        int keptMoves;
        int made;

        Yard(Hold hold, int rows, int high, int bears) {
            this.hold = hold;
            this.rows = rows;
            this.high = high;
            this.bears = bears;
            height = new int[rows];
            grounds = new int[rows];
            reserved = new int[rows];
            cells = new int[rows * high];
            Arrays.fill(rowOf, NONE);
            Arrays.fill(levelOf, NONE);
        }

        int boxAt(int row, int level) {
            return level >= 0 && level < height[row] ? cells[row * high + level] : NONE;
        }

        private int topOf(int row) {
            return boxAt(row, height[row] - 1);
        }

        boolean isOnTop(int box) {
            return rowOf[box] != NONE && topOf(rowOf[box]) == box;
        }

        int above(int box) {
            return rowOf[box] == NONE ? 0 : height[rowOf[box]] - 1 - levelOf[box];
        }

        int weightOf(int row) {
            int sum = 0;
            for (int level = 0; level < height[row]; level++) {
                sum += hold.weight[boxAt(row, level)];
            }
            return sum;
        }

        boolean hasOtherShip(int row, int ship) {
            for (int level = 0; level < height[row]; level++) {
                if (hold.ship[boxAt(row, level)] != ship) {
                    return true;
                }
            }
            return false;
        }

        private boolean hasOtherSize(int row, int size) {
            for (int level = 0; level < height[row]; level++) {
                if (hold.size[boxAt(row, level)] != size) {
                    return true;
                }
            }
            return false;
        }

        private int sooner(int box, int row, int below) {
            int n = 0;
            for (int level = 0; level < below; level++) {
                n += hold.leaves[boxAt(row, level)] < hold.leaves[box] ? 1 : 0;
            }
            return n;
        }

        private int soonerBelow(int box) {
            return rowOf[box] == NONE ? 0 : sooner(box, rowOf[box], levelOf[box]);
        }

        boolean isInTheWay(int box) {
            return soonerBelow(box) > 0;
        }

        int inTheWay() {
            int n = 0;
            for (int box = 0; box < hold.boxes; box++) {
                n += isInTheWay(box) ? 1 : 0;
            }
            return n;
        }

        int standing() {
            int n = 0;
            for (int row = 0; row < rows; row++) {
                n += height[row];
            }
            return n;
        }

        int brokenByPut(int box, int row) {
            if (!hold.isHere(box)) {
                return 9;
            }
            return rowOf[box] != NONE ? 1 : brokenOnRow(box, row);
        }

        int brokenByShift(int box, int row) {
            if (!hold.isHere(box)) {
                return 9;
            }
            return rowOf[box] == row ? 1 : brokenOnRow(box, row);
        }

        // The rules 2 to 8: those that ask for the row, not for where the box is.
        private int brokenOnRow(int box, int row) {
            if (reserved[row] != 0 && reserved[row] != hold.ship[box]) {
                return 2;
            }
            if (height[row] >= high) {
                return 3;
            }
            if (weightOf(row) + hold.weight[box] > bears) {
                return 4;
            }
            if (hasOtherSize(row, hold.size[box])) {
                return 5;
            }
            if (height[row] > 0 && hold.weight[box] > hold.weight[topOf(row)]) {
                return 6;
            }
            if (hold.kind[box] == 1 && grounds[row] != 1) {
                return 7;
            }
            return (hold.kind[box] == 2) != (grounds[row] == 2) ? 8 : 0;
        }

        private int score(int box, int row) {
            int extra = reserved[row] != 0 ? 30 : 0;
            if (height[row] == 0) {
                return 20 + extra;
            }
            int top = topOf(row);
            int sameShip = hold.ship[top] == hold.ship[box] ? 12 : 0;
            int lighter = Math.max(0, hold.weight[top] - hold.weight[box]);
            return 40 - 15 * sooner(box, row, height[row]) + sameShip - Math.min(24, 3 * lighter) + extra;
        }

        int bestRow(int box) {
            int best = NONE;
            for (int row = 0; row < rows; row++) {
                if (brokenOnRow(box, row) == 0 && (best == NONE || score(box, row) > score(box, best))) {
                    best = row;
                }
            }
            return best;
        }

        private int bestClearRow(int box) {
            int best = NONE;
            for (int row = 0; row < rows; row++) {
                boolean fits = brokenByShift(box, row) == 0 && sooner(box, row, height[row]) == 0;
                if (fits && (best == NONE || score(box, row) > score(box, best))) {
                    best = row;
                }
            }
            return best;
        }

        int tidy(int most) {
            int done = 0;
            while (done < most) {
                int box = boxToTidy();
                if (box == NONE) {
                    break;
                }
                bring(box, bestClearRow(box));
                done++;
            }
            return done;
        }

        private int boxToTidy() {
            int found = NONE;
            int most = 0;
            for (int row = 0; row < rows; row++) {
                int box = topOf(row);
                if (box != NONE && soonerBelow(box) > most && bestClearRow(box) != NONE) {
                    found = box;
                    most = soonerBelow(box);
                }
            }
            return found;
        }

        // A move of the yard: from where the box is (NONE: no row) to a row, or to none.
        void bring(int box, int row) {
            movedBox[nextKept] = box;
            movedFrom[nextKept] = rowOf[box];
            nextKept = (nextKept + 1) % KEPT;
            keptMoves = Math.min(keptMoves + 1, KEPT);
            made++;
            place(box, row);
        }

        int takeBack() {
            int latest = (nextKept + KEPT - 1) % KEPT;
            if (keptMoves == 0 || hold.stay[movedBox[latest]] != 0) {
                return NONE;
            }
            nextKept = latest;
            keptMoves--;
            made--;
            place(movedBox[latest], movedFrom[latest]);
            return movedBox[latest];
        }

        private void place(int box, int row) {
            if (rowOf[box] != NONE) {
                height[rowOf[box]]--;
            }
            rowOf[box] = NONE;
            levelOf[box] = NONE;
            if (row != NONE && height[row] < high) {
                rowOf[box] = row;
                levelOf[box] = height[row];
                cells[row * high + height[row]] = box;
                height[row]++;
            }
        }
    }

    /** Goods, bars, rules and the gate. */
    private static final class Gate {
        static final int GOODS = 300;
        static final int SOURCES = 4;
        static final int KINDS = 10;
        private static final int BARRED = 13;
        private static final int FAILED = 14;
        private static final int NOTICES = 64;

        private final Hold hold;
        private final Yard yard;
        int goods;
        int told;
        final int[] rules = new int[SOURCES];
        final int[] limits = new int[SOURCES];
        final int[] failures = new int[SOURCES];
        final int[] released = new int[Hold.BOXES];
        final int[] goodsIn = new int[Hold.BOXES];
        final int[] leader = new int[Hold.BOXES];
        private final int[] loaded = new int[Hold.BOXES];
        private final int[] freeIn = new int[Hold.BOXES];
        private final int[] boxOfGoods = new int[GOODS];
        private final boolean[] isFree = new boolean[GOODS];
        private final int[] counts = new int[Hold.BOXES * SOURCES * KINDS];
        private final int[] lifters = new int[Hold.BOXES * SOURCES * KINDS];
        private final int[] notices = new int[NOTICES];

        Gate(Hold hold, Yard yard) {
            this.hold = hold;
            this.yard = yard;
            for (int box = 0; box < Hold.BOXES; box++) {
                leader[box] = box;
            }
        }

        private int kilograms(int box) {
            return 1000 * hold.weight[box];
        }

        int roomIn(int box) {
            return kilograms(box) - loaded[box];
        }

        int addGoods(int box, int weighs) {
            boxOfGoods[goods] = box;
            goodsIn[box]++;
            loaded[box] += weighs;
            goods++;
            return goods - 1;
        }

        void setFree(int which, boolean free) {
            if (isFree[which] != free) {
                isFree[which] = free;
                freeIn[boxOfGoods[which]] += free ? 1 : -1;
            }
        }

        boolean isBehind(int which) {
            return hold.stay[boxOfGoods[which]] == Hold.BEHIND;
        }

        private static int cell(int box, int source, int kind) {
            return (box * SOURCES + source) * KINDS + kind;
        }

        int addBar(int box, int source, int kind, int right) {
            int cell = cell(box, source, kind);
            if (counts[cell] == 0) {
                tell(box, 0);
            }
            counts[cell]++;
            lifters[cell] = right;
            return counts[cell];
        }

        int takeBar(int box, int source, int kind, int rights) {
            int cell = cell(box, source, kind);
            if (counts[cell] <= 0 || (rights >> lifters[cell] & 1) == 0) {
                return NONE;
            }
            counts[cell]--;
            if (counts[cell] == 0) {
                tell(box, 1);
            }
            return counts[cell];
        }

        int ownBars(int box) {
            int n = 0;
            for (int i = 0; i < SOURCES * KINDS; i++) {
                n += counts[box * SOURCES * KINDS + i] > 0 ? 1 : 0;
            }
            return n;
        }

        boolean unite(int box, int other) {
            int kept = Math.min(leader[box], leader[other]);
            int gone = Math.max(leader[box], leader[other]);
            if (kept == gone) {
                return false;
            }
            for (int b = 0; b < hold.boxes; b++) {
                leader[b] = leader[b] == gone ? kept : leader[b];
            }
            return true;
        }

        int groupSize(int box) {
            int n = 0;
            for (int b = 0; b < hold.boxes; b++) {
                n += leader[b] == leader[box] ? 1 : 0;
            }
            return n;
        }

        private int ownBar(int box) {
            if (goodsIn[box] == 0) {
                return 10;
            }
            return freeIn[box] < goodsIn[box] ? 11 : 0;
        }

        private int verdict(int source, int box) {
            switch (rules[source]) {
                case 1:
                    return kilograms(box) > limits[source] ? BARRED : 0;
                case 2:
                    return box % 2 == 1 ? BARRED : 0;
                case 3:
                    return goodsIn[box] > 0 ? FAILED : 0;
                case 4:
                    return FAILED;
                default:
                    return 0;
            }
        }

        // Each rule is asked of each box, also behind the first that bars: all failures count.
        boolean askRelease(int box) {
            boolean good = true;
            for (int b = 0; b < hold.boxes; b++) {
                if (leader[b] == leader[box]) {
                    boolean rulesPass = askRules(b);
                    good = good && rulesPass && ownBar(b) == 0 && ownBars(b) == 0;
                }
            }
            return good;
        }

        private boolean askRules(int box) {
            boolean good = true;
            for (int source = 0; source < SOURCES; source++) {
                int says = verdict(source, box);
                failures[source] += says == FAILED ? 1 : 0;
                good = good && says == 0;
            }
            return good;
        }

        int barOfGroup(int box, int i) {
            int left = i;
            for (int b = 0; b < hold.boxes && left >= 0; b++) {
                if (leader[b] == leader[box]) {
                    int n = barsOf(b);
                    if (left < n) {
                        return barOf(b, left);
                    }
                    left -= n;
                }
            }
            return NONE;
        }

        private int barsOf(int box) {
            int n = ownBars(box) + (ownBar(box) != 0 ? 1 : 0);
            for (int source = 0; source < SOURCES; source++) {
                n += verdict(source, box) != 0 ? 1 : 0;
            }
            return n;
        }

        private int barOf(int box, int i) {
            int left = i;
            if (ownBar(box) != 0) {
                if (left == 0) {
                    return ownBar(box);
                }
                left--;
            }
            for (int source = 0; source < SOURCES; source++) {
                for (int slot = 0; slot <= KINDS; slot++) {
                    int found = barIn(box, source, slot);
                    if (found != NONE && left == 0) {
                        return found;
                    }
                    left -= found != NONE ? 1 : 0;
                }
            }
            return NONE;
        }

        // The slot behind those of the kinds is the rule's.
        private int barIn(int box, int source, int slot) {
            boolean isKind = slot < KINDS;
            int shown = isKind ? slot : verdict(source, box);
            boolean bars = isKind ? counts[cell(box, source, slot)] > 0 : shown != 0;
            return bars ? 100 + 100 * source + shown : NONE;
        }

        int releasePart(int box, int some) {
            boolean may = askRelease(box);
            if (!may || hold.stay[box] != 0 || some > kilograms(box) - released[box]) {
                return NONE;
            }
            released[box] += some;
            tell(box, 2);
            return released[box];
        }

        int takeBackRelease(int box) {
            if (released[box] == 0) {
                return 2;
            }
            if (hold.stay[box] == Hold.BEHIND) {
                tell(box, 5);
                return 0;
            }
            released[box] = 0;
            tell(box, 4);
            return 1;
        }

        private boolean mayLeave(int box) {
            return hold.isHere(box) && yard.rowOf[box] == NONE;
        }

        boolean letOut(int box) {
            if (!mayLeave(box) || !askRelease(box) || released[box] != kilograms(box)) {
                return false;
            }
            hold.stay[box] = Hold.BEHIND;
            tell(box, 3);
            return true;
        }

        boolean bond(int box, boolean goes) {
            if (goes ? !mayLeave(box) : hold.stay[box] != Hold.AWAY) {
                return false;
            }
            hold.stay[box] = goes ? Hold.AWAY : 0;
            return true;
        }

        private void tell(int box, int what) {
            notices[Math.floorMod(told, NOTICES)] = 10 * box + what;
            told++;
        }

        int keptNotice(int i) {
            int kept = Math.min(told, NOTICES);
            return i >= 0 && i < kept ? notices[Math.floorMod(told - kept + i, NOTICES)] : NONE;
        }
    }

    /** Measures by code, land and day, and the groups of lands. */
    private static final class Tariff {
        static final int ROWS = 300;
        static final int ENDS = 8;
        static final int KINDS = 8;
        static final int LANDS = 16;
        static final int AREAS = 24;
        private static final int BEATEN_KINDS = 4;

        int rows;
        int present;
        int keptSize;
        private int foundSize;
        final int[] from = new int[ROWS + 1];
        final int[] kind = new int[ROWS + 1];
        final int[] ends = new int[ROWS + 1];
        final int[] excluded = new int[ROWS + 1];
        final int[] wanted = new int[ROWS + 1];
        final int[] kept = new int[ROWS];
        final int[] found = new int[ROWS];
        final Rate[] rates = new Rate[ROWS + 1];
        private final int[] code = new int[ROWS + 1];
        private final int[] area = new int[ROWS + 1];
        private final int[] rank = new int[ROWS + 1];
        private final int[] endDay = new int[(ROWS + 1) * ENDS];
        private final int[] endKnown = new int[(ROWS + 1) * ENDS];
        private final int[] members = new int[AREAS];
        private final int[] strongest = new int[KINDS];
        private final boolean[] fits = new boolean[ROWS + 1];

        boolean addMember(int group, int area) {
            boolean isOne = (members[group] >> area & 1) == 1;
            if (isOne || (reachOf(area) >> group & 1) == 1) {
                return false;
            }
            members[group] |= 1 << area;
            return true;
        }

        // All lands and groups that are in an area, itself too; a way down passes each of the few groups once at most.
        private int reachOf(int start) {
            int reach = 1 << start;
            for (int round = LANDS; round < AREAS; round++) {
                for (int group = LANDS; group < AREAS; group++) {
                    if ((reach >> group & 1) == 1) {
                        reach |= members[group];
                    }
                }
            }
            return reach;
        }

        int landsIn(int group) {
            return reachOf(group) & 0xFFFF;
        }

        private boolean isIn(int land, int row) {
            if ((excluded[row] >> land & 1) == 1) {
                return false;
            }
            return area[row] == ALL || (reachOf(area[row]) >> land & 1) == 1;
        }

        int addRow(int ofCode, int ofArea, int first, int last, int ofKind, int ofRank, int known) {
            int row = rows + 1;
            code[row] = ofCode;
            area[row] = ofArea;
            from[row] = first;
            kind[row] = ofKind;
            rank[row] = ofRank;
            ends[row] = 0;
            addEnd(row, last, known);
            for (int other = 1; other <= rows; other++) {
                if (clash(row, other)) {
                    return -1 - other;
                }
            }
            rows = row;
            return row;
        }

        private boolean clash(int row, int other) {
            boolean alike = code[row] == code[other] && area[row] == area[other] && kind[row] == kind[other]
                    && rank[row] == rank[other];
            return alike && from[row] <= lastDay(other, LAST_DAY) && from[other] <= lastDay(row, LAST_DAY);
        }

        int addEnd(int row, int day, int known) {
            endDay[row * ENDS + ends[row]] = day;
            endKnown[row * ENDS + ends[row]] = known;
            ends[row]++;
            return ends[row];
        }

        static boolean addOneOfFour(int[] masks, int row, int bit) {
            if ((masks[row] >> bit & 1) == 1 || Integer.bitCount(masks[row]) >= 4) {
                return false;
            }
            masks[row] |= 1 << bit;
            return true;
        }

        private int lastDay(int row, int known) {
            int latest = NONE;
            int day = NONE;
            for (int i = row * ENDS; i < row * ENDS + ends[row]; i++) {
                if (endKnown[i] <= known && endKnown[i] >= latest) {
                    latest = endKnown[i];
                    day = endDay[i];
                }
            }
            return day;
        }

        private static int lengthOf(int code) {
            if (code < 100) {
                return 2;
            }
            return code < 10000 ? 4 : 6;
        }

        private static boolean isUnder(int full, int code) {
            if (code < 100) {
                return full / 10000 == code;
            }
            return code < 10000 ? full / 100 == code : full == code;
        }

        private boolean isOf(int row, int full, int land, int day, int known) {
            return endKnown[row * ENDS] <= known && isUnder(full, code[row]) && from[row] <= day
                    && day <= lastDay(row, known) && isIn(land, row);
        }

        private boolean hasPapers(int row) {
            return wanted[row] == 0 || (wanted[row] & present) != 0;
        }

        private int strengthOf(int row) {
            return 10 * lengthOf(code[row]) + rank[row];
        }

        int find(int full, int land, int day, int known) {
            Arrays.fill(strongest, 0);
            for (int row = 1; row <= rows; row++) {
                fits[row] = isOf(row, full, land, day, known) && hasPapers(row);
                if (fits[row] && kind[row] < BEATEN_KINDS) {
                    strongest[kind[row]] = Math.max(strongest[kind[row]], strengthOf(row));
                }
            }
            foundSize = 0;
            for (int k = 0; k < KINDS; k++) {
                for (int row = 1; row <= rows; row++) {
                    if (kind[row] == k && fits[row] && strengthOf(row) >= strongest[k]) {
                        found[foundSize] = row;
                        foundSize++;
                    }
                }
            }
            return foundSize;
        }

        int keepList() {
            System.arraycopy(found, 0, kept, 0, foundSize);
            keptSize = foundSize;
            return keptSize;
        }
    }

    /** A rate as a tree: its nodes in the document's order, so that those below a node have greater numbers. */
    private static final class Rate {
        static final int NODES = 60;
        static final int UNITS = 8;
        static final int FREE = 0;
        static final int SHARE = 1;
        static final int BY_UNIT = 2;
        static final int SUM = 3;
        static final int DIFFERENCE = 4;
        static final int LEAST = 5;
        static final int GREATEST = 6;
        static final int STEPS = 7;
        static final int FACTS = 7;
        private static final int FIRST_STEP = 6;

        final int nodes;
        final int units;
        private final int[] facts;
        private final int[] steps;

        Rate(int nodes, int units, int[] facts, int[] steps) {
            this.nodes = nodes;
            this.units = units;
            this.facts = facts;
            this.steps = steps;
        }

        int fact(int i, int what) {
            return facts[i * FACTS + what];
        }

        int kindOf(int i) {
            return fact(i, 0);
        }

        int stepFact(int i, int row, int which) {
            return steps[(fact(i, FIRST_STEP) + row) * 2 + which];
        }

        // From the last node on, so that what is below a node is reckoned ahead of it.
        long valueAt(long price, long[] amounts, long[] values) {
            for (int i = nodes - 1; i >= 0; i--) {
                values[i] = kindOf(i) >= SUM && kindOf(i) <= GREATEST ? joined(i, values) : single(i, price, amounts);
            }
            return Math.max(0, values[0]);
        }

        private long joined(int i, long[] values) {
            long left = values[fact(i, 3)];
            long right = values[fact(i, 4)];
            switch (kindOf(i)) {
                case SUM:
                    return left + right;
                case DIFFERENCE:
                    return left - right;
                case LEAST:
                    return Math.min(left, right);
                default:
                    return Math.max(left, right);
            }
        }

        private long single(int i, long price, long[] amounts) {
            switch (kindOf(i)) {
                case SHARE:
                    return price * fact(i, 1) * 10;
                case BY_UNIT:
                    return amounts[fact(i, 2)] * fact(i, 1);
                case STEPS:
                    return stepCents(i, price) * 1000000L;
                default:
                    return 0;
            }
        }

        private long stepCents(int i, long price) {
            int rows = fact(i, 5);
            if (price <= 0) {
                return stepFact(i, rows - 1, 1);
            }
            long reached = fact(i, 1) * 100L / price;
            long cents = 0;
            for (int row = 0; row < rows; row++) {
                if (stepFact(i, row, 0) <= reached) {
                    cents = stepFact(i, row, 1);
                }
            }
            return cents;
        }
    }

    /** The tape, the reading of rates from it, and their printing. */
    private static final class RateReader {
        private static final int SIGNS = 400;
        private static final int PRINTED = 1024;
        private static final int DEEPEST = 12;
        private static final int STEP_ROWS = 6;
        private static final int ALL_STEPS = SIGNS / 2;
        private static final int ENDED = 0;

        int tapeSize;
        int printedSize;
        int badPlace = NONE;
        final char[] printedSigns = new char[PRINTED];
        private final char[] tape = new char[SIGNS];
        private final int[] facts = new int[Rate.NODES * Rate.FACTS];
        private final int[] steps = new int[ALL_STEPS * 2];
        private final int[] numbers = new int[Rate.NODES];
        private final int[] stack = new int[Rate.NODES * Rate.FACTS * 2];
        private int place;
        private int nodes;
        private int allSteps;
        private int units;
        private int stacked;

        // ---- the tape

        boolean addSigns(long word, int n) {
            if (tapeSize + n > SIGNS) {
                return false;
            }
            for (int i = 0; i < n; i++) {
                long sign = word >> 8 * i & 255;
                if (sign < 32 || sign > 126) {
                    return false;
                }
            }
            for (int i = n - 1; i >= 0; i--) {
                tape[tapeSize] = (char) (word >> 8 * i & 255);
                tapeSize++;
            }
            return true;
        }

        void emptyTape() {
            tapeSize = 0;
        }

        // ---- reading: each method answers NONE when the text can't go on, and badPlace tells where

        Rate readTape() {
            place = 0;
            nodes = 0;
            allSteps = 0;
            units = 0;
            badPlace = NONE;
            int root = readRate(0);
            if (root != NONE && next() != ENDED) {
                refuse(place);
            }
            return badPlace == NONE && root != NONE ? builtFrom(root) : null;
        }

        private int refuse(int where) {
            if (badPlace == NONE) {
                badPlace = where;
            }
            return NONE;
        }

        private int signAt(int where) {
            return where < tapeSize ? tape[where] : ENDED;
        }

        // Blanks are passed; the sign is not.
        private int next() {
            while (place < tapeSize && tape[place] == ' ') {
                place++;
            }
            return place < tapeSize ? tape[place] : ENDED;
        }

        private boolean pass(char sign) {
            if (next() != sign) {
                refuse(place);
                return false;
            }
            place++;
            return true;
        }

        private int addNode(int kind, int where) {
            if (nodes >= Rate.NODES) {
                return refuse(where);
            }
            int at = nodes * Rate.FACTS;
            facts[at] = kind;
            facts[at + 1] = 0;
            facts[at + 2] = NONE;
            facts[at + 3] = NONE;
            facts[at + 4] = NONE;
            facts[at + 5] = 0;
            facts[at + 6] = 0;
            nodes++;
            return nodes - 1;
        }

        private void setFact(int node, int what, int value) {
            facts[node * Rate.FACTS + what] = value;
        }

        private void setBelow(int node, int left, int right) {
            setFact(node, 3, left);
            setFact(node, 4, right);
        }

        private int readRate(int depth) {
            int left = readPart(depth);
            for (int i = 0; i < SIGNS && left != NONE; i++) {
                int sign = next();
                if (sign != '+' && sign != '-') {
                    break;
                }
                int joined = addNode(sign == '+' ? Rate.SUM : Rate.DIFFERENCE, place);
                place++;
                int right = joined == NONE ? NONE : readPart(depth);
                if (right == NONE) {
                    return NONE;
                }
                setBelow(joined, left, right);
                left = joined;
            }
            return left;
        }

        private int readPart(int depth) {
            int sign = next();
            if (sign == '(') {
                return readBracket(depth);
            }
            if (isDigit(sign)) {
                return readNumberPart();
            }
            int start = place;
            int length = runOfLetters();
            if (isWord(start, length, "free")) {
                place += length;
                return addNode(Rate.FREE, start);
            }
            if (isWord(start, length, "min")) {
                return readPair(Rate.LEAST, depth);
            }
            if (isWord(start, length, "max")) {
                return readPair(Rate.GREATEST, depth);
            }
            return isWord(start, length, "step") ? readSteps() : refuse(start);
        }

        private int readBracket(int depth) {
            if (depth >= DEEPEST) {
                return refuse(place);
            }
            place++;
            int inner = readRate(depth + 1);
            return inner != NONE && pass(')') ? inner : NONE;
        }

        private int readPair(int kind, int depth) {
            int node = depth >= DEEPEST ? refuse(place) : addNode(kind, place);
            place += 3;
            if (node == NONE || !pass('(')) {
                return NONE;
            }
            int left = readRate(depth + 1);
            int right = left != NONE && pass(',') ? readRate(depth + 1) : NONE;
            if (right == NONE || !pass(')')) {
                return NONE;
            }
            setBelow(node, left, right);
            return node;
        }

        private static boolean isDigit(int sign) {
            return sign >= '0' && sign <= '9';
        }

        private int runOfDigits(int start) {
            int length = 0;
            while (start + length < tapeSize && tape[start + length] >= '0' && tape[start + length] <= '9') {
                length++;
            }
            return length;
        }

        private int runOfLetters() {
            int length = 0;
            while (place + length < tapeSize && signAt(place + length) >= 'a' && signAt(place + length) <= 'z') {
                length++;
            }
            return length;
        }

        private boolean isWord(int start, int length, String word) {
            if (length != word.length()) {
                return false;
            }
            for (int i = 0; i < length; i++) {
                if (signAt(start + i) != word.charAt(i)) {
                    return false;
                }
            }
            return true;
        }

        private int digits(int start, int length) {
            int number = 0;
            for (int i = start; i < start + length && i < tapeSize; i++) {
                number = number * 10 + tape[i] - '0';
            }
            return number;
        }

        private int readNumberPart() {
            int node = addNode(Rate.SHARE, place);
            int number = node == NONE ? NONE : readNumber();
            if (number == NONE) {
                return NONE;
            }
            setFact(node, 1, number);
            if (next() == '/') {
                place++;
                return readUnit(node);
            }
            return pass('%') ? node : NONE;
        }

        private int readUnit(int node) {
            int sign = next();
            if (sign < 'A' || sign > 'H') {
                return refuse(place);
            }
            place++;
            setFact(node, 0, Rate.BY_UNIT);
            setFact(node, 2, sign - 'A');
            units |= 1 << sign - 'A';
            return node;
        }

        // A number in thousandths.
        private int readNumber() {
            int start = place;
            int whole = runOfDigits(start);
            if (whole < 1 || whole > 5) {
                return refuse(start);
            }
            int number = 1000 * digits(start, whole);
            place = start + whole;
            if (signAt(place) != '.') {
                return number;
            }
            int behind = runOfDigits(place + 1);
            if (behind < 1 || behind > 3) {
                return refuse(start);
            }
            int fraction = digits(place + 1, behind);
            for (int i = behind; i < 3; i++) {
                fraction *= 10;
            }
            place += 1 + behind;
            return number + fraction;
        }

        private int readWhole() {
            next();
            int start = place;
            int length = runOfDigits(start);
            if (length < 1 || length > 6) {
                return refuse(start);
            }
            place = start + length;
            return digits(start, length);
        }

        private int readSteps() {
            int node = addNode(Rate.STEPS, place);
            place += 4;
            if (node == NONE || !pass('(')) {
                return NONE;
            }
            int entry = readWhole();
            if (entry == NONE || !pass(':')) {
                return NONE;
            }
            int rows = readStepRows();
            if (rows == NONE || !pass(')')) {
                return NONE;
            }
            setFact(node, 1, entry);
            setFact(node, 5, rows);
            setFact(node, 6, allSteps - rows);
            return node;
        }

        private int readStepRows() {
            int last = NONE;
            for (int row = 0; row <= STEP_ROWS; row++) {
                next();
                int start = place;
                int reached = readWhole();
                int cents = reached != NONE && pass('=') ? readWhole() : NONE;
                if (cents == NONE) {
                    return NONE;
                }
                if (row >= STEP_ROWS || reached <= last || allSteps >= ALL_STEPS) {
                    return refuse(start);
                }
                steps[allSteps * 2] = reached;
                steps[allSteps * 2 + 1] = cents;
                allSteps++;
                last = reached;
                if (next() != ',') {
                    return row + 1;
                }
                place++;
            }
            return NONE;
        }

        // ---- the tree, numbered anew: each node ahead of those below it

        private Rate builtFrom(int root) {
            int[] ordered = new int[nodes * Rate.FACTS];
            numberFrom(root);
            for (int node = 0; node < nodes; node++) {
                int at = numbers[node] * Rate.FACTS;
                System.arraycopy(facts, node * Rate.FACTS, ordered, at, Rate.FACTS);
                ordered[at + 3] = numberOf(ordered[at + 3]);
                ordered[at + 4] = numberOf(ordered[at + 4]);
            }
            return new Rate(nodes, units, ordered, Arrays.copyOf(steps, allSteps * 2));
        }

        private int numberOf(int node) {
            return node == NONE ? NONE : numbers[node];
        }

        private void numberFrom(int root) {
            stacked = 0;
            push(root);
            for (int number = 0; number < nodes && stacked > 0; number++) {
                int node = pop();
                numbers[node] = number;
                if (facts[node * Rate.FACTS + 3] != NONE) {
                    push(facts[node * Rate.FACTS + 4]);
                    push(facts[node * Rate.FACTS + 3]);
                }
            }
        }

        private void push(int item) {
            if (stacked < stack.length) {
                stack[stacked] = item;
                stacked++;
            }
        }

        private int pop() {
            stacked--;
            return stack[stacked];
        }

        // ---- printing: the stack holds nodes, and signs (below 0) that stand between or behind them

        int printRate(Rate rate) {
            printedSize = 0;
            stacked = 0;
            push(0);
            for (int i = 0; i < PRINTED && stacked > 0; i++) {
                int item = pop();
                if (item < 0) {
                    addSign(-item);
                } else {
                    printNode(rate, item);
                }
            }
            return printedSize;
        }

        private void addSign(int sign) {
            if (printedSize < PRINTED) {
                printedSigns[printedSize] = (char) sign;
                printedSize++;
            }
        }

        private void addWord(String word) {
            for (int i = 0; i < word.length(); i++) {
                addSign(word.charAt(i));
            }
        }

        private void printNode(Rate rate, int node) {
            switch (rate.kindOf(node)) {
                case Rate.FREE:
                    addWord("free");
                    break;
                case Rate.SHARE:
                    printNumber(rate.fact(node, 1));
                    addSign('%');
                    break;
                case Rate.BY_UNIT:
                    printNumber(rate.fact(node, 1));
                    addSign('/');
                    addSign('A' + rate.fact(node, 2));
                    break;
                case Rate.SUM:
                case Rate.DIFFERENCE:
                    stackJoined(rate, node);
                    break;
                case Rate.STEPS:
                    printSteps(rate, node);
                    break;
                default:
                    stackPair(rate, node);
                    break;
            }
        }

        private void stackJoined(Rate rate, int node) {
            int right = rate.fact(node, 4);
            boolean bracketed = rate.kindOf(right) == Rate.SUM || rate.kindOf(right) == Rate.DIFFERENCE;
            if (bracketed) {
                push(-')');
            }
            push(right);
            if (bracketed) {
                push(-'(');
            }
            push(-' ');
            push(rate.kindOf(node) == Rate.SUM ? -'+' : -'-');
            push(-' ');
            push(rate.fact(node, 3));
        }

        private void stackPair(Rate rate, int node) {
            addWord(rate.kindOf(node) == Rate.LEAST ? "min(" : "max(");
            push(-')');
            push(rate.fact(node, 4));
            push(-' ');
            push(-',');
            push(rate.fact(node, 3));
        }

        private void printSteps(Rate rate, int node) {
            addWord("step(");
            printWhole(rate.fact(node, 1));
            addSign(':');
            for (int row = 0; row < rate.fact(node, 5); row++) {
                addWord(row == 0 ? " " : ", ");
                printWhole(rate.stepFact(node, row, 0));
                addSign('=');
                printWhole(rate.stepFact(node, row, 1));
            }
            addSign(')');
        }

        private void printNumber(int thousandths) {
            printWhole(thousandths / 1000);
            int rest = thousandths % 1000;
            if (rest > 0) {
                addSign('.');
            }
            for (int i = 0; i < 3 && rest > 0; i++) {
                addSign('0' + rest / 100);
                rest = rest % 100 * 10;
            }
        }

        private void printWhole(int number) {
            int unit = 1;
            for (int i = 0; i < 9 && number / unit >= 10; i++) {
                unit *= 10;
            }
            for (int i = 0; i < 10 && unit > 0; i++) {
                addSign('0' + number / unit % 10);
                unit /= 10;
            }
        }
    }

    /** Orders and the asks of them; an order's course is made anew whenever something of it changes. */
    private static final class Quotas {
        static final int ORDERS = 16;
        static final int LAST = 400;
        static final long MOST_VOLUME = 1000000000L;
        static final long MOST_ASKED = 1000000L;
        private static final int DAYS = LAST + 1;

        int orders;
        private int asks;
        final long[] volume = new long[ORDERS];
        final int[] from = new int[ORDERS];
        final int[] to = new int[ORDERS];
        final int[] runDay = new int[ORDERS];
        private final boolean[] blocked = new boolean[ORDERS * DAYS];
        private final long[] balances = new long[ORDERS * DAYS];
        private final int[] askOrder = new int[Declarations.MOST];
        private final int[] askDesk = new int[Declarations.MOST];
        private final int[] askDay = new int[Declarations.MOST];
        final long[] asked = new long[Declarations.MOST];
        final long[] has = new long[Declarations.MOST];
        final int[] treated = new int[Declarations.MOST];
        private final long[] had = new long[Declarations.MOST];
        private final int[] mine = new int[Declarations.MOST];
        private int mineSize;
        private int mineWaiting;

        int addOrder(long of, int first, int last) {
            volume[orders] = of;
            from[orders] = first;
            to[orders] = last;
            runDay[orders] = first - 1;
            orders++;
            return orders - 1;
        }

        boolean isInSpan(int order, int day) {
            return day >= from[order] && day <= to[order];
        }

        int orderOf(int ask) {
            return askOrder[ask];
        }

        int addAsk(int order, int desk, int day, long amount) {
            int ask = asks;
            askOrder[ask] = order;
            askDesk[ask] = desk;
            askDay[ask] = day;
            asked[ask] = amount;
            asks++;
            follow(order);
            return ask;
        }

        int changeAsk(int ask, long amount) {
            System.arraycopy(has, 0, had, 0, asks);
            asked[ask] = amount;
            follow(askOrder[ask]);
            int changed = 0;
            for (int i = 0; i < asks; i++) {
                changed += has[i] != had[i] ? 1 : 0;
            }
            return changed;
        }

        int runTo(int order, int day) {
            int wasRun = runDay[order];
            runDay[order] = day;
            follow(order);
            int got = 0;
            for (int i = 0; i < mineSize; i++) {
                got += treated[mine[i]] > wasRun && has[mine[i]] > 0 ? 1 : 0;
            }
            return got;
        }

        boolean setBlocked(int order, int day, boolean on) {
            int cell = order * DAYS + day;
            if (blocked[cell] == on) {
                return false;
            }
            blocked[cell] = on;
            follow(order);
            return true;
        }

        private boolean wasRun(int order) {
            return runDay[order] >= from[order];
        }

        boolean carryOver(int order, int other, long some) {
            boolean may = order != other && !wasRun(order) && !wasRun(other) && some >= 1 && some < volume[order];
            if (!may || some > MOST_VOLUME - volume[other]) {
                return false;
            }
            volume[order] -= some;
            volume[other] += some;
            return true;
        }

        long balanceAt(int order, int day) {
            return day < from[order] ? volume[order] : balances[order * DAYS + Math.min(day, to[order])];
        }

        boolean isCritical(int order) {
            return 10 * balanceAt(order, runDay[order]) < volume[order];
        }

        int blockedDays(int order) {
            int n = 0;
            for (int day = 0; day < DAYS; day++) {
                n += blocked[order * DAYS + day] ? 1 : 0;
            }
            return n;
        }

        int waiting(int order) {
            int n = 0;
            for (int i = 0; i < asks; i++) {
                n += askOrder[i] == order && treated[i] == NONE ? 1 : 0;
            }
            return n;
        }

        private void follow(int order) {
            gather(order);
            long balance = volume[order];
            int last = Math.min(runDay[order], to[order]);
            for (int day = from[order]; day <= last; day++) {
                if (mineWaiting > 0 && !blocked[order * DAYS + day]) {
                    balance = treat(day, balance);
                }
                balances[order * DAYS + day] = balance;
            }
        }

        private void gather(int order) {
            mineSize = 0;
            for (int i = 0; i < asks; i++) {
                if (askOrder[i] == order) {
                    has[i] = 0;
                    treated[i] = NONE;
                    mine[mineSize] = i;
                    mineSize++;
                }
            }
            mineWaiting = mineSize;
        }

        private boolean isDue(int ask, int day) {
            return treated[ask] == NONE && askDay[ask] <= day;
        }

        private long treat(int day, long balance) {
            long all = 0;
            for (int i = 0; i < mineSize; i++) {
                all += isDue(mine[i], day) ? asked[mine[i]] : 0;
            }
            long left = balance;
            for (int i = 0; i < mineSize; i++) {
                int ask = mine[i];
                if (isDue(ask, day)) {
                    has[ask] = all <= balance || all <= 0 ? asked[ask] : asked[ask] * balance / all;
                    left -= has[ask];
                    treated[ask] = day;
                    mineWaiting--;
                }
            }
            return all > balance ? handOut(day, left) : left;
        }

        // What the rounding leaves is less than there are asks, so that each gets one more at most.
        private long handOut(int day, long some) {
            long left = some;
            for (int desk = 0; desk < Securities.DESKS; desk++) {
                for (int i = 0; i < mineSize && left > 0; i++) {
                    int ask = mine[i];
                    if (treated[ask] == day && askDesk[ask] == desk && has[ask] < asked[ask]) {
                        has[ask]++;
                        left--;
                    }
                }
            }
            return left;
        }
    }

    /** Guarantees, what is reserved of them, and their interest. */
    private static final class Securities {
        static final int HOLDERS = 8;
        static final int DESKS = 4;
        static final int GUARANTEES = 40;
        static final int RELEASED = 1;
        static final int PAID = 2;
        static final int CLAIMED = 3;
        private static final long MOST_FREE = 2000000000L;
        private static final int PARTS = 4;
        private static final int COLUMNS = 16;
        private static final int AMOUNT = 1;
        private static final int NEEDED = 2;
        private static final int USES = 5;
        private static final int CLOSED = 6;
        private static final int TAKEN = 8;
        private static final int UP = 9;
        private static final int DOWN = 10;
        private static final int SINGLE = 11;
        private static final int RATE = 12;
        private static final int SINCE = 13;
        private static final int EARNED = 14;
        private static final int CLOSED_ON = 15;
        private static final int WIDTH = 12;

        int guarantees;
        int reservations;
        int live;
        int today;
        final int[] held = new int[HOLDERS];
        final boolean[] deskFails = new boolean[DESKS];
        final int[] failures = new int[DESKS];
        private final int[] turns = new int[HOLDERS * GUARANTEES];
        private final long[] table = new long[(GUARANTEES + 1) * COLUMNS];
        private final long[] reserved = new long[(Declarations.MOST + 1) * WIDTH];

        private long get(int guarantee, int column) {
            return table[guarantee * COLUMNS + column];
        }

        private void set(int guarantee, int column, long value) {
            table[guarantee * COLUMNS + column] = value;
        }

        int addGuarantee(int holder, long amount, int up, int down, boolean single, int rate) {
            guarantees++;
            int g = guarantees;
            set(g, 0, holder);
            set(g, AMOUNT, amount);
            set(g, UP, up);
            set(g, DOWN, down);
            set(g, SINGLE, single ? 1 : 0);
            set(g, RATE, rate);
            set(g, SINCE, today);
            turns[holder * GUARANTEES + held[holder]] = g;
            held[holder]++;
            return g;
        }

        int inTurn(int holder, int i) {
            return turns[holder * GUARANTEES + i];
        }

        boolean moveToFront(int guarantee) {
            int holder = (int) get(guarantee, 0);
            int start = holder * GUARANTEES;
            if (turns[start] == guarantee) {
                return false;
            }
            int carried = guarantee;
            for (int i = start; i < start + held[holder]; i++) {
                int was = turns[i];
                turns[i] = carried;
                carried = was;
                if (was == guarantee) {
                    break;
                }
            }
            return true;
        }

        boolean closeOne(int guarantee) {
            if (get(guarantee, CLOSED) == 1) {
                return false;
            }
            set(guarantee, CLOSED, 1);
            set(guarantee, CLOSED_ON, today);
            return true;
        }

        // Days with one amount are reckoned together: of such a row of days the rest is dropped once.
        private long latestRow(int guarantee) {
            long last = get(guarantee, CLOSED) == 1 ? get(guarantee, CLOSED_ON) : today;
            long days = Math.max(0, last - get(guarantee, SINCE));
            return get(guarantee, AMOUNT) * get(guarantee, RATE) * days / 3650000L;
        }

        long interestOf(int guarantee) {
            return get(guarantee, EARNED) + latestRow(guarantee);
        }

        private void lessen(int guarantee, long by) {
            if (by <= 0) {
                return;
            }
            set(guarantee, EARNED, interestOf(guarantee));
            set(guarantee, SINCE, today);
            set(guarantee, AMOUNT, get(guarantee, AMOUNT) - by);
            set(guarantee, TAKEN, get(guarantee, TAKEN) + by);
        }

        private long neededFor(int guarantee, long cents) {
            long down = Math.max(1, get(guarantee, DOWN));
            return (cents * get(guarantee, UP) + down - 1) / down;
        }

        private long freeIn(int guarantee) {
            return Math.max(0, get(guarantee, AMOUNT) - get(guarantee, NEEDED));
        }

        private long mayCover(int guarantee) {
            boolean used = get(guarantee, SINGLE) == 1 && get(guarantee, USES) > 0;
            if (used || get(guarantee, CLOSED) == 1) {
                return 0;
            }
            long up = get(guarantee, UP);
            return up <= 0 ? MOST_CENTS : freeIn(guarantee) * get(guarantee, DOWN) / up;
        }

        long freeOf(int holder) {
            long sum = 0;
            for (int i = 0; i < held[holder]; i++) {
                sum += mayCover(inTurn(holder, i));
            }
            return Math.min(sum, MOST_FREE);
        }

        long fact(int guarantee, int what) {
            switch (what) {
                case 3:
                    return freeIn(guarantee);
                case 4:
                    return mayCover(guarantee);
                case 7:
                    return Math.max(0, get(guarantee, NEEDED) - get(guarantee, AMOUNT));
                default:
                    return get(guarantee, what);
            }
        }

        // ---- reservations: holder, cents, how it ended, parts, their guarantees, what they cover

        boolean hasFact(int reservation, int what) {
            if (what >= 0 && what <= 3) {
                return true;
            }
            int part = what < 8 ? what - 4 : what - 8;
            return part >= 0 && part < partsOf(reservation);
        }

        long factOfReservation(int reservation, int what) {
            return reserved[reservation * WIDTH + what];
        }

        private int partsOf(int reservation) {
            return (int) reserved[reservation * WIDTH + 3];
        }

        // Its number; 0 if it can't be covered, NONE if the desk failed.
        int cover(int holder, int desk, long cents) {
            int next = reservations + 1;
            if (reservations >= Declarations.MOST || !spread(next, holder, cents)) {
                return 0;
            }
            if (deskFails[desk]) {
                deskFails[desk] = false;
                failures[desk]++;
                return NONE;
            }
            reservations = next;
            live++;
            for (int i = 0; i < partsOf(next); i++) {
                use(next, i, 1);
            }
            return next;
        }

        // Only the row of a number that is not given yet is written, so that what is refused leaves no trace.
        private boolean spread(int next, int holder, long cents) {
            int start = next * WIDTH;
            int parts = 0;
            long left = cents;
            for (int i = 0; i < held[holder] && left > 0; i++) {
                int guarantee = inTurn(holder, i);
                long covers = Math.min(left, mayCover(guarantee));
                if (covers > 0) {
                    if (parts >= PARTS) {
                        return false;
                    }
                    reserved[start + 4 + parts] = guarantee;
                    reserved[start + 8 + parts] = covers;
                    parts++;
                    left -= covers;
                }
            }
            reserved[start] = holder;
            reserved[start + 1] = cents;
            reserved[start + 2] = 0;
            reserved[start + 3] = parts;
            return left == 0;
        }

        private int guaranteeOf(int reservation, int part) {
            return (int) reserved[reservation * WIDTH + 4 + part];
        }

        private long coveredBy(int reservation, int part) {
            return reserved[reservation * WIDTH + 8 + part];
        }

        private void use(int reservation, int part, int sign) {
            int guarantee = guaranteeOf(reservation, part);
            long needs = neededFor(guarantee, coveredBy(reservation, part));
            set(guarantee, NEEDED, get(guarantee, NEEDED) + sign * needs);
            set(guarantee, USES, get(guarantee, USES) + sign);
        }

        private long claimableBy(int reservation, int part) {
            return Math.min(get(guaranteeOf(reservation, part), AMOUNT), coveredBy(reservation, part));
        }

        long claimable(int reservation) {
            long sum = 0;
            for (int i = 0; i < partsOf(reservation); i++) {
                sum += claimableBy(reservation, i);
            }
            return sum;
        }

        // By how much amounts got less.
        long finish(int reservation, int how) {
            long taken = 0;
            for (int i = 0; i < partsOf(reservation); i++) {
                use(reservation, i, -1);
                if (how == CLAIMED) {
                    long some = claimableBy(reservation, i);
                    lessen(guaranteeOf(reservation, i), some);
                    taken += some;
                }
            }
            reserved[reservation * WIDTH + 1] = 0;
            reserved[reservation * WIDTH + 2] = how;
            reserved[reservation * WIDTH + 3] = 0;
            live--;
            return taken;
        }
    }

    /** Batches, the entries that were posted, and what is passed on of them. */
    private static final class Ledger {
        static final int BATCHES = 800;
        static final int ACCOUNTS = 12;
        static final int DUTIES = 8;
        static final int SECURITIES = 9;
        static final int KINDS = 4;
        static final int RECEIVERS = 4;
        static final int IS_OPEN = 0;
        static final int IS_POSTED = 1;
        static final int FACTS = 7;
        private static final int IS_VOID = 2;
        private static final int ENTRIES = 1;
        private static final int REVERSES = 2;
        private static final int REVERSED_BY = 3;
        private static final int FAILING = 4;
        private static final int VALID = 5;
        private static final int KNOWN = 6;
        private static final int IN_BATCH = 20;
        private static final int BOOKED = 4000;

        int batches;
        int booked;
        int closed = NONE;
        int latest = NONE;
        int wrong;
        int named = NONE;
        int failed;
        final int[] parts = new int[KINDS * RECEIVERS];
        final int[] costs = new int[KINDS];
        private final int[] table = new int[BATCHES * FACTS];
        private final int[] entryAccount = new int[BATCHES * IN_BATCH];
        private final int[] entryCents = new int[BATCHES * IN_BATCH];
        private final int[] bookedBatch = new int[BOOKED];
        private final int[] bookedEntry = new int[BOOKED];
        private final long[] sums = new long[ACCOUNTS];
        private final long[] given = new long[RECEIVERS];
        private final long[] remainders = new long[RECEIVERS];

        int fact(int batch, int what) {
            return table[batch * FACTS + what];
        }

        private void set(int batch, int what, int value) {
            table[batch * FACTS + what] = value;
        }

        int stateOf(int batch) {
            return fact(batch, 0);
        }

        int entriesOf(int batch) {
            return fact(batch, ENTRIES);
        }

        int begin(int valid, int known) {
            int batch = batches;
            set(batch, REVERSES, NONE);
            set(batch, REVERSED_BY, NONE);
            set(batch, VALID, valid);
            set(batch, KNOWN, known);
            batches++;
            return batch;
        }

        boolean addEntry(int batch, int account, long cents) {
            int n = entriesOf(batch);
            if (n >= IN_BATCH) {
                return false;
            }
            entryAccount[batch * IN_BATCH + n] = account;
            entryCents[batch * IN_BATCH + n] = (int) cents;
            set(batch, ENTRIES, n + 1);
            return true;
        }

        void setFailing(int batch, boolean is) {
            set(batch, FAILING, is ? 1 : 0);
        }

        // ---- posting

        private boolean isTooEarly(int known) {
            return known <= closed || known < latest;
        }

        private boolean hasRoom(int entries) {
            return booked + entries <= BOOKED;
        }

        // Whether one more batch could be begun and posted.
        boolean wouldTake(int entries, int known) {
            return batches < BATCHES && !isTooEarly(known) && hasRoom(entries);
        }

        private long sumOf(int batch) {
            long sum = 0;
            for (int i = 0; i < entriesOf(batch); i++) {
                sum += entryCents[batch * IN_BATCH + i];
            }
            return sum;
        }

        private int wrongWith(int batch) {
            if (entriesOf(batch) == 0) {
                return 1;
            }
            if (sumOf(batch) != 0) {
                return 2;
            }
            if (fact(batch, KNOWN) <= closed) {
                return 3;
            }
            if (isTooEarly(fact(batch, KNOWN))) {
                return 4;
            }
            return hasRoom(entriesOf(batch)) ? 0 : 5;
        }

        boolean voidIfWrong(int batch) {
            int found = wrongWith(batch);
            if (found == 0) {
                return false;
            }
            wrong = found;
            named = found == 2 ? greatestAccount(batch) : NONE;
            set(batch, 0, IS_VOID);
            set(batch, ENTRIES, 0);
            return true;
        }

        private int greatestAccount(int batch) {
            Arrays.fill(sums, 0);
            for (int i = batch * IN_BATCH; i < batch * IN_BATCH + entriesOf(batch); i++) {
                sums[entryAccount[i]] += entryCents[i];
            }
            int greatest = 0;
            for (int account = 1; account < ACCOUNTS; account++) {
                if (Math.abs(sums[account]) > Math.abs(sums[greatest])) {
                    greatest = account;
                }
            }
            return greatest;
        }

        // The half that would go in and out again leaves no trace, so it is not written at all.
        boolean failIfTold(int batch) {
            if (fact(batch, FAILING) == 0) {
                return false;
            }
            set(batch, FAILING, 0);
            failed++;
            return true;
        }

        void enter(int batch) {
            for (int i = 0; i < entriesOf(batch) && booked < BOOKED; i++) {
                bookedBatch[booked] = batch;
                bookedEntry[booked] = batch * IN_BATCH + i;
                booked++;
            }
            set(batch, 0, IS_POSTED);
            latest = fact(batch, KNOWN);
        }

        boolean mayBeReversed(int batch) {
            return fact(batch, REVERSES) == NONE && fact(batch, REVERSED_BY) == NONE;
        }

        int turn(int batch, int known) {
            int turned = begin(fact(batch, VALID), known);
            for (int i = batch * IN_BATCH; i < batch * IN_BATCH + entriesOf(batch); i++) {
                addEntry(turned, entryAccount[i], -entryCents[i]);
            }
            set(turned, REVERSES, batch);
            set(batch, REVERSED_BY, turned);
            enter(turned);
            return turned;
        }

        // ---- what was posted

        long factOfEntry(int i, int what) {
            switch (what) {
                case 0:
                    return bookedBatch[i];
                case 1:
                    return entryAccount[bookedEntry[i]];
                case 2:
                    return entryCents[bookedEntry[i]];
                case 3:
                    return fact(bookedBatch[i], VALID);
                default:
                    return fact(bookedBatch[i], KNOWN);
            }
        }

        long sum(int account, int first, int last, int known) {
            long sum = 0;
            for (int i = 0; i < booked; i++) {
                int valid = fact(bookedBatch[i], VALID);
                boolean counts = valid >= first && valid <= last && fact(bookedBatch[i], KNOWN) <= known;
                if (counts && entryAccount[bookedEntry[i]] == account) {
                    sum += entryCents[bookedEntry[i]];
                }
            }
            return sum;
        }

        private static int kindOf(int account) {
            if (account < DUTIES) {
                return 0;
            }
            return Math.min(account - DUTIES + 1, KINDS - 1);
        }

        private long sumOfKind(int kind, int known) {
            long sum = 0;
            for (int account = 0; account < ACCOUNTS; account++) {
                sum += kindOf(account) == kind ? sum(account, 0, LAST_BOOK_DAY, known) : 0;
            }
            return Math.max(0, sum);
        }

        long passedOn(int kind, int what, int known) {
            long all = sumOfKind(kind, known);
            long spent = all * costs[kind] / 1000;
            deal(kind, all - spent);
            switch (what) {
                case 4:
                    return spent;
                case 5:
                    return all - given[0] - given[1] - given[2] - given[3];
                case 6:
                    return all;
                default:
                    return given[what];
            }
        }

        private void deal(int kind, long pot) {
            long allParts = 0;
            for (int i = 0; i < RECEIVERS; i++) {
                allParts += parts[kind * RECEIVERS + i];
            }
            long left = allParts > 0 ? pot : 0;
            for (int i = 0; i < RECEIVERS; i++) {
                long wanted = pot * parts[kind * RECEIVERS + i];
                given[i] = allParts > 0 ? wanted / allParts : 0;
                remainders[i] = allParts > 0 ? wanted % allParts : 0;
                left -= given[i];
            }
            for (int i = 0; i < RECEIVERS && left > 0; i++) {
                giveOneMore();
                left--;
            }
        }

        private void giveOneMore() {
            int greatest = 0;
            for (int i = 1; i < RECEIVERS; i++) {
                if (remainders[i] > remainders[greatest]) {
                    greatest = i;
                }
            }
            given[greatest]++;
            remainders[greatest] = NONE;
        }
    }

    /** Declarations: they bind measures, quotas, securities, the ledger and the gate. */
    private static final class Declarations {
        static final int MOST = 400;
        static final int FACTS = 23;
        static final int DECLARED = 0;
        static final int SECURED = 1;
        static final int PAID = 2;
        static final int CLAIMED = 3;
        static final int CANCELLED = 4;
        private static final int GOODS = 0;
        private static final int HOLDER = 1;
        private static final int DESK = 2;
        private static final int CODE = 3;
        private static final int LAND = 4;
        private static final int DAY = 5;
        private static final int PRICE = 6;
        private static final int STATE = 7;
        private static final int DUTY = 8;
        private static final int RESERVATION = 9;
        private static final int BATCH = 10;
        private static final int ASK_ORDER = 11;
        private static final int ASK_AMOUNT = 12;
        private static final int ASK_HAS = 13;
        private static final int ASK_TREATED = 14;
        private static final int UNITS = 15;
        private static final int NOT_COUNTED = 0;
        private static final int ON_ALL = 1;
        private static final int ON_QUOTA_PART = 2;
        private static final int ON_REST = 3;

        private final Tariff tariff;
        private final Quotas quotas;
        private final Securities securities;
        private final Ledger ledger;
        private final Gate door;
        int size;
        final int[] askOf = new int[MOST];
        final boolean[] isTaken = new boolean[Gate.GOODS];
        private final long[] table = new long[MOST * FACTS];
        private final long[] amounts = new long[Rate.UNITS];
        private final long[] values = new long[Rate.NODES];

        Declarations(Tariff tariff, Quotas quotas, Securities securities, Ledger ledger, Gate door) {
            this.tariff = tariff;
            this.quotas = quotas;
            this.securities = securities;
            this.ledger = ledger;
            this.door = door;
        }

        private long get(int d, int what) {
            return table[d * FACTS + what];
        }

        private int small(int d, int what) {
            return (int) get(d, what);
        }

        private void set(int d, int what, long value) {
            table[d * FACTS + what] = value;
        }

        int add(int goods, int holder, int desk, int code, int land, int day, long price) {
            int d = size;
            set(d, GOODS, goods);
            set(d, HOLDER, holder);
            set(d, DESK, desk);
            set(d, CODE, code);
            set(d, LAND, land);
            set(d, DAY, day);
            set(d, PRICE, price);
            set(d, BATCH, NONE);
            for (int unit = 0; unit < Rate.UNITS; unit++) {
                set(d, UNITS + unit, NONE);
            }
            askOf[d] = NONE;
            isTaken[goods] = true;
            size++;
            return d;
        }

        int stateOf(int d) {
            return small(d, STATE);
        }

        long dutyOf(int d) {
            return get(d, DUTY);
        }

        int inState(int state) {
            int n = 0;
            for (int d = 0; d < size; d++) {
                n += stateOf(d) == state ? 1 : 0;
            }
            return n;
        }

        long fact(int d, int what) {
            return what >= ASK_ORDER && what <= ASK_TREATED ? factOfAsk(askOf[d], what) : get(d, what);
        }

        private long factOfAsk(int ask, int what) {
            switch (what) {
                case ASK_ORDER:
                    return ask == NONE ? NONE : quotas.orderOf(ask);
                case ASK_AMOUNT:
                    return ask == NONE ? 0 : quotas.asked[ask];
                case ASK_HAS:
                    return ask == NONE ? 0 : quotas.has[ask];
                default:
                    return ask == NONE ? NONE : quotas.treated[ask];
            }
        }

        void setAmount(int d, int unit, long thousandths) {
            set(d, UNITS + unit, thousandths);
        }

        boolean addAsk(int d, int order, long amount) {
            if (!quotas.isInSpan(order, small(d, DAY))) {
                return false;
            }
            askOf[d] = quotas.addAsk(order, small(d, DESK), small(d, DAY), amount);
            return true;
        }

        // ---- the duty

        // A rate that asks for this unit alone, or for none.
        long valueWithOne(Rate rate, long price, int unit, long amount) {
            amounts[unit] = amount;
            return rate.valueAt(price, amounts, values);
        }

        // NONE if it can't be reckoned.
        long reckon(int d, int known) {
            int n = tariff.find(small(d, CODE), small(d, LAND), small(d, DAY), known);
            long sum = 0;
            for (int i = 0; i < n; i++) {
                Rate rate = tariff.rates[tariff.found[i]];
                int base = rate == null ? NOT_COUNTED : baseOf(d, tariff.kind[tariff.found[i]]);
                if (rate == null || base == NOT_COUNTED) {
                    continue;
                }
                if (lacksAmount(d, rate)) {
                    return NONE;
                }
                sum += centsOf(d, rate, base);
            }
            return sum > MOST_CENTS ? NONE : sum;
        }

        private int baseOf(int d, int kind) {
            int ask = askOf[d];
            if (kind > 1) {
                return ON_ALL;
            }
            if (kind == 1) {
                return ask != NONE && quotas.has[ask] > 0 ? ON_QUOTA_PART : NOT_COUNTED;
            }
            if (ask == NONE) {
                return ON_ALL;
            }
            return quotas.has[ask] < quotas.asked[ask] ? ON_REST : NOT_COUNTED;
        }

        private boolean lacksAmount(int d, Rate rate) {
            for (int unit = 0; unit < Rate.UNITS; unit++) {
                if ((rate.units >> unit & 1) == 1 && get(d, UNITS + unit) == NONE) {
                    return true;
                }
            }
            return false;
        }

        private long centsOf(int d, Rate rate, int base) {
            for (int unit = 0; unit < Rate.UNITS; unit++) {
                amounts[unit] = onBase(d, Math.max(0, get(d, UNITS + unit)), base);
            }
            long micros = rate.valueAt(onBase(d, get(d, PRICE), base), amounts, values);
            return (micros + 500000L) / 1000000L;
        }

        private long onBase(int d, long whole, int base) {
            int ask = askOf[d];
            if (base == ON_ALL || ask == NONE || quotas.asked[ask] <= 0) {
                return whole;
            }
            long part = whole * quotas.has[ask] / quotas.asked[ask];
            return base == ON_QUOTA_PART ? part : whole - part;
        }

        // ---- what becomes of it

        long secure(int d, long duty) {
            int holder = small(d, HOLDER);
            if (duty > 0) {
                int reservation = securities.cover(holder, small(d, DESK), duty);
                if (reservation <= 0) {
                    return reservation == NONE ? NONE : -2 - securities.freeOf(holder);
                }
                set(d, RESERVATION, reservation);
            }
            set(d, DUTY, duty);
            set(d, STATE, SECURED);
            door.setFree(small(d, GOODS), true);
            return duty;
        }

        private int book(int d, int known, long fromSecurities, long fromHolder) {
            int batch = ledger.begin(small(d, DAY), known);
            if (fromSecurities != 0) {
                ledger.addEntry(batch, Ledger.SECURITIES, -fromSecurities);
            }
            if (fromHolder != 0) {
                ledger.addEntry(batch, small(d, HOLDER), -fromHolder);
            }
            ledger.addEntry(batch, Ledger.DUTIES, fromSecurities + fromHolder);
            ledger.enter(batch);
            set(d, BATCH, batch);
            return batch;
        }

        int settle(int d, int known) {
            set(d, STATE, PAID);
            if (dutyOf(d) == 0) {
                return NONE;
            }
            securities.finish(small(d, RESERVATION), Securities.PAID);
            return book(d, known, 0, dutyOf(d));
        }

        int claimEntries(int d) {
            long got = securities.claimable(small(d, RESERVATION));
            return 1 + (got > 0 ? 1 : 0) + (got < dutyOf(d) ? 1 : 0);
        }

        long callIn(int d, int known) {
            long got = securities.finish(small(d, RESERVATION), Securities.CLAIMED);
            book(d, known, got, dutyOf(d) - got);
            set(d, STATE, CLAIMED);
            return got;
        }

        long setRight(int d, long duty, int known) {
            long more = duty - dutyOf(d);
            if (more != 0) {
                book(d, known, 0, more);
                set(d, DUTY, duty);
            }
            return more;
        }

        boolean giveUp(int d) {
            int goods = small(d, GOODS);
            boolean mayBe = stateOf(d) == DECLARED || stateOf(d) == SECURED;
            if (!mayBe || door.isBehind(goods)) {
                return false;
            }
            if (get(d, RESERVATION) > 0) {
                securities.finish(small(d, RESERVATION), Securities.RELEASED);
            }
            if (askOf[d] != NONE) {
                quotas.changeAsk(askOf[d], 0);
            }
            set(d, STATE, CANCELLED);
            isTaken[goods] = false;
            door.setFree(goods, false);
            return true;
        }
    }
}
