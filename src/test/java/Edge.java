/**
 * A boundary case: the promise and the document's own words for it, and calls that are refused there, each shown to
 * change nothing.
 */
final class Edge {
    /** A house made anew by the same calls each time. */
    interface House {
        PortHouse make();
    }

    interface Act {
        void on(PortHouse x);
    }

    interface Asked {
        long on(PortHouse x);
    }

    interface Told {
        boolean on(PortHouse x);
    }

    private static String sentence = "";
    private static House lastHouse;
    private static String lastTold;

    private Edge() {
    }

    /** A promise and its words. */
    static void of(int promise, String words) {
        looksAt("promise " + promise, words);
    }

    /** A sentence of the terms, and the promise whose call shows it. */
    static void term(int promise, String words) {
        looksAt("terms of promise " + promise, words);
    }

    // What stands behind a colon or between dots may be the test's own remark on the words.
    private static void looksAt(String where, String words) {
        sentence = where + ", \"" + words + "\"";
        Check.topic(sentence);
    }

    /** Which of many cases of that sentence is looked at. */
    static void at(String which) {
        Check.topic(sentence + " at \"" + which + "\"");
    }

    /** The call throws, and changes nothing. */
    static void thrown(Class<? extends RuntimeException> want, House house, Act call) {
        PortHouse x = house.make();
        Check.thrown(want, () -> call.on(x));
        still(house, x, y -> Check.thrown(want, () -> call.on(y)));
    }

    /** The call answers false, and changes nothing. */
    static void refused(House house, Told call) {
        answered(0, house, x -> call.on(x) ? 1 : 0);
    }

    /** The call gives this answer, and changes nothing. */
    static void answered(long want, House house, Asked call) {
        PortHouse x = house.make();
        Check.due(want, call.on(x));
        still(house, x, y -> Check.due(want, call.on(y)));
    }

    /** Two ways that leave the same. */
    static void alike(House one, House other) {
        same(Still.told(one.make()) + Still.next(one.make()), Still.told(other.make()) + Still.next(other.make()));
    }

    private static void still(House house, PortHouse called, Act call) {
        PortHouse other = house.make();
        call.on(other);
        same(told(house), Still.told(called) + Still.next(other));
    }

    // Many calls in turn are refused by one kind of house: what it tells without them is asked once.
    private static String told(House house) {
        if (house != lastHouse) {
            lastHouse = house;
            lastTold = Still.told(house.make()) + Still.next(house.make());
        }
        return lastTold;
    }

    private static void same(String want, String got) {
        String[] due = want.split("\n");
        String[] is = got.split("\n");
        for (int i = 0; i < Math.min(due.length, is.length); i++) {
            if (!due[i].equals(is[i])) {
                Check.due("still " + due[i], "then " + is[i]);
                return;
            }
        }
        Check.due(due.length, is.length);
    }
}
