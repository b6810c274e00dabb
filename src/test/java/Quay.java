/** Boxes that were brought ashore for a test. */
final class Quay {
    private Quay() {
    }

    /** One more box, out of bay 0, that stands on the best row. */
    static int standing(PortHouse x, int sort, int weight, int leaves, int ship) {
        int box = x.box(0, 0, 0, sort, weight, leaves, ship);
        x.plan(0);
        Check.due(0, x.work(0));
        return box;
    }

    /** One more box that is ashore and stands in no row; the two moves of the yard that it took are kept. */
    static int loose(PortHouse x, int sort, int weight, int leaves, int ship) {
        int box = standing(x, sort, weight, leaves, ship);
        Check.due(1, x.take(box));
        return box;
    }

    /** One more box, put on a row. */
    static int on(PortHouse x, int row, int weight, int leaves, int ship) {
        int box = loose(x, 0, weight, leaves, ship);
        Check.due(1, x.put(box, row));
        return box;
    }

    /** Goods of all of a box's kilograms that are FREE: declared without any measure, so for no duty. */
    static int freed(PortHouse x, int box) {
        int goods = x.goods(box, 1000 * x.where(box, 5));
        int declaration = x.declare(goods, 0, 0, 123456, 0, 0, 0L);
        Check.due(0, x.assess(declaration, 0));
        return declaration;
    }
}
