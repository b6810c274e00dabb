/** Promise 1: a new object, its numbers held to their bounds, with nothing in it. */
public final class NewObjectTest {
    public static void main(String[] args) {
        Check.topic("promise 1, constants");
        Check.due(-1, PortHouse.NONE);
        Check.due(31, PortHouse.ALL);
        Check.due(20000, PortHouse.OPEN);
        heldBelow();
        heldAbove();
        nothingElse();
        Check.end();
    }

    private static void heldBelow() {
        Check.topic("promise 1, held to the least");
        PortHouse x = new PortHouse(0, -3, Integer.MIN_VALUE, 0, -1);
        Check.due(0, x.plan(0));
        Check.thrown(Check.ARGUMENT, () -> x.plan(1));
        Check.due(0, x.box(0, 0, 0, 0, 1, 0, 1));
        Check.thrown(Check.STATE, () -> x.box(0, 0, 0, 0, 1, 0, 1));
        Check.due(0, x.count(200));
        Check.due(-1, x.count(201));
        Check.due(-1, x.at(0, 0));
        Check.thrown(Check.INDEX, () -> x.at(0, 1));
        Check.due(1, x.box(0, 1, 0, 0, 2, 0, 1));
        Check.due(2, x.plan(0));
        Check.due(1, x.work(0));
        Check.topic("promise 1, a ground that bears 1");
        Check.due(-1, x.work(0));
        Check.due(1, x.take(0));
        Check.due(-1, x.work(0));
    }

    private static void heldAbove() {
        Check.topic("promise 1, held to the most");
        PortHouse x = new PortHouse(13, 5, 21, 9, 401);
        Check.due(0, x.plan(11));
        Check.thrown(Check.ARGUMENT, () -> x.plan(12));
        for (int i = 0; i < 4; i++) {
            Check.due(i, x.box(11, 2, 0, 0, 40, 0, 1));
        }
        Check.thrown(Check.STATE, () -> x.box(11, 2, 0, 0, 40, 0, 1));
        Check.due(0, x.count(219));
        Check.due(-1, x.count(220));
        Check.due(-1, x.at(19, 7));
        Check.thrown(Check.INDEX, () -> x.at(19, 8));
        Check.thrown(Check.INDEX, () -> x.at(20, 0));
        bearsFourHundred();
    }

    // No row weighs more than eight boxes of 40, so that all of these stand on a ground held to 400.
    private static void bearsFourHundred() {
        Check.topic("promise 1, a ground that bears 320");
        PortHouse x = new PortHouse(12, 4, 1, 8, 5000);
        for (int b = 0; b < 8; b++) {
            x.box(b / 4, b % 3, 0, 0, 40, 8 - b, 1);
        }
        int put = 0;
        for (int bay = 0; bay < 2; bay++) {
            for (int left = x.plan(bay); left > 0; left--) {
                put += x.work(bay) >= 0 ? 1 : 0;
            }
        }
        Check.due(8, put);
        Check.due(320, x.count(300));
    }

    private static void nothingElse() {
        Check.topic("promise 1, nothing else is there");
        PortHouse x = new PortHouse(1, 1, 1, 1, 1);
        for (int what = 0; what <= 40; what++) {
            boolean isNone = what == 30 || what == 31 || what == 33;
            Check.due(isNone ? -1 : 0, x.count(what));
        }
        Check.due(-1, x.count(100));
        Check.due(0, x.count(300));
        Check.due(0, x.count(400));
        Check.due(0, x.count(500));
        Check.due(0, x.count(616));
        Check.due(-1, x.notice(0));
        Check.due(-1, x.listed(0));
        Check.due(-1, x.undo());
        Check.thrown(Check.INDEX, () -> x.printed(0));
        Check.thrown(Check.INDEX, () -> x.declared(0, 0));
        Check.thrown(Check.INDEX, () -> x.aboard(0, 0));
    }
}
