/** Goods and declarations for a test: all goods are in box 0, which is aboard and weighs 40. */
final class Customs {
    private Customs() {
    }

    /** A house with row 1 for all lands and days, of a kind, with this rate. */
    static PortHouse house(int kind, String rate) {
        PortHouse x = new PortHouse(2, 4, 2, 4, 100);
        x.box(0, 0, 0, 0, 40, 5, 1);
        measure(x, kind, rate);
        return x;
    }

    /** One more row for all lands and days. */
    static int measure(PortHouse x, int kind, String rate) {
        int row = x.row(12, PortHouse.ALL, 0, PortHouse.OPEN, kind, x.count(15) % 10, 0);
        Check.due(true, Tape.rate(x, row, rate) > 0);
        return row;
    }

    static int declared(PortHouse x, int holder, int desk, int day, long price) {
        return x.declare(x.goods(0, 1), holder, desk, 123456, 3, day, price);
    }

    static int asks(PortHouse x, int desk, int day, int order, long amount) {
        int d = declared(x, 0, desk, day, 1000);
        Check.due(1, x.ask(d, order, amount));
        return d;
    }

    /** A declaration that is SECURED; in a house with a rate of 100% its duty is the price. */
    static int secured(PortHouse x, int holder, int day, long price) {
        int d = declared(x, holder, 0, day, price);
        Check.due(price, x.assess(d, 0));
        return d;
    }

    static void facts(PortHouse x, int d, int from, long... due) {
        for (int i = 0; i < due.length; i++) {
            Check.due(due[i], x.declared(d, from + i));
        }
    }
}
