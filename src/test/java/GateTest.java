/** Promises 20 to 32: goods, bars, groups, rules, release, the gate, notices. */
public final class GateTest {
    private static final int BOND = 1 << 15;

    public static void main(String[] args) {
        goods();
        threeHundredGoods();
        bar();
        lift();
        join();
        rule();
        ruleSays();
        release();
        releaseAsksAll();
        bars();
        barsOfGroup();
        part();
        partAsksFirst();
        withdraw();
        gate();
        gateAsksLast();
        away();
        awayAndPart();
        notices();
        noticesKept();
        look();
        Check.end();
    }

    private static PortHouse house() {
        return new PortHouse(2, 4, 4, 4, 100);
    }

    private static void goods() {
        Check.topic("promise 20");
        PortHouse x = house();
        x.box(0, 0, 0, 0, 2, 5, 1);
        Check.due(0, x.goods(0, 1500));
        Check.thrown(Check.ARGUMENT, () -> x.goods(0, 501));
        Check.due(1, x.goods(0, 500));
        Check.thrown(Check.ARGUMENT, () -> x.goods(0, 1));
        Check.due(2, x.count(8));
        x.box(0, 0, 0, 0, 2, 5, 1);
        Check.thrown(Check.ARGUMENT, () -> x.goods(1, 0));
        Check.thrown(Check.ARGUMENT, () -> x.goods(1, -5));
        Check.thrown(Check.ARGUMENT, () -> x.goods(1, Integer.MAX_VALUE));
        Check.thrown(Check.ARGUMENT, () -> x.goods(2, 1));
        Check.thrown(Check.ARGUMENT, () -> x.goods(-1, 1));
        Check.due(2, x.goods(1, 1));
        Check.due(3, x.goods(1, 1999));
    }

    private static void threeHundredGoods() {
        Check.topic("promise 20, three hundred");
        PortHouse x = house();
        x.box(0, 0, 0, 0, 2, 5, 1);
        for (int i = 0; i < 300; i++) {
            Check.due(i, x.goods(0, 1));
        }
        Check.thrown(Check.STATE, () -> x.goods(0, 1));
        Check.thrown(Check.ARGUMENT, () -> x.goods(0, 0));
        Check.due(300, x.count(8));
    }

    private static void bar() {
        Check.topic("promise 21");
        PortHouse x = house();
        x.box(0, 0, 0, 0, 2, 5, 1);
        Check.due(1, x.bar(3, 0, 9, 15));
        Check.due(2, x.bar(3, 0, 9, 0));
        Check.due(1, x.bar(3, 0, 8, 0));
        Check.due(1, x.bar(2, 0, 9, 0));
        Check.due(3, x.look(0, 2));
        int[][] wrong = {{-1, 0, 0, 0}, {4, 0, 0, 0}, {0, -1, 0, 0}, {0, 1, 0, 0}, {0, 0, -1, 0}, {0, 0, 10, 0},
            {0, 0, 0, -1}, {0, 0, 0, 16}};
        for (int[] a : wrong) {
            Check.thrown(Check.ARGUMENT, () -> x.bar(a[0], a[1], a[2], a[3]));
        }
        Check.due(3, x.look(0, 2));
    }

    private static void lift() {
        Check.topic("promise 22");
        PortHouse x = house();
        x.box(0, 0, 0, 0, 2, 5, 1);
        Check.due(-1, x.lift(0, 0, 0, 65535));
        x.bar(0, 0, 0, 4);
        Check.due(-1, x.lift(0, 0, 0, 65535 - 16));
        Check.due(0, x.lift(0, 0, 0, 16));
        Check.due(-1, x.lift(0, 0, 0, 16));
        x.bar(0, 0, 0, 4);
        x.bar(0, 0, 0, 15);
        Check.topic("promise 22, the latest RIGHT lifts, as often as it was told");
        Check.due(-1, x.lift(0, 0, 0, 16));
        Check.due(1, x.lift(0, 0, 0, 32768));
        Check.due(0, x.lift(0, 0, 0, 65535));
        Check.due(0, x.look(0, 2));
        int[][] wrong = {{-1, 0, 0, 0}, {4, 0, 0, 0}, {0, -1, 0, 0}, {0, 1, 0, 0}, {0, 0, -1, 0}, {0, 0, 10, 0},
            {0, 0, 0, -1}, {0, 0, 0, 65536}};
        for (int[] a : wrong) {
            Check.thrown(Check.ARGUMENT, () -> x.lift(a[0], a[1], a[2], a[3]));
        }
    }

    private static void join() {
        Check.topic("promise 23");
        PortHouse x = house();
        for (int b = 0; b < 6; b++) {
            x.box(b / 4, b % 3, 0, 0, 2, 5, 1);
        }
        Check.due(1, x.join(5, 3));
        Check.due(0, x.join(3, 5));
        Check.due(3, x.look(5, 4));
        Check.due(2, x.look(3, 5));
        Check.due(1, x.join(1, 2));
        Check.due(1, x.join(5, 2));
        Check.due(0, x.join(3, 1));
        for (int b : new int[] {1, 2, 3, 5}) {
            Check.due(1, x.look(b, 4));
            Check.due(4, x.look(b, 5));
        }
        Check.due(0, x.look(0, 4));
        Check.due(1, x.look(0, 5));
        Check.due(4, x.look(4, 4));
        int[][] wrong = {{-1, 0}, {0, -1}, {6, 0}, {0, 6}, {2, 2}};
        for (int[] a : wrong) {
            Check.thrown(Check.ARGUMENT, () -> x.join(a[0], a[1]));
        }
    }

    private static void rule() {
        Check.topic("promise 24");
        PortHouse x = house();
        Check.due(true, x.rule(0, 0, -7));
        Check.due(true, x.rule(3, 4, 999999));
        Check.due(true, x.rule(1, 1, 0));
        Check.due(true, x.rule(1, 1, 40000));
        Check.due(false, x.rule(1, 1, -1));
        Check.due(false, x.rule(1, 1, 40001));
        Check.due(false, x.rule(-1, 0, 0));
        Check.due(false, x.rule(4, 0, 0));
        Check.due(false, x.rule(0, -1, 0));
        Check.due(false, x.rule(0, 5, 0));
    }

    private static void ruleSays() {
        Check.topic("promise 24, what rules say");
        PortHouse x = house();
        x.box(0, 0, 0, 0, 3, 5, 1);
        x.box(0, 0, 0, 0, 3, 5, 1);
        x.rule(0, 1, 3000);
        Check.due(-1, x.bars(0, 1));
        x.rule(0, 1, 2999);
        Check.due(113, x.bars(0, 1));
        Check.due(false, x.rule(0, 1, 40001));
        Check.due(113, x.bars(0, 1));
        x.rule(0, 0, 0);
        Check.due(-1, x.bars(0, 1));
        x.rule(1, 2, 0);
        Check.due(-1, x.bars(0, 1));
        Check.due(213, x.bars(1, 1));
        x.rule(1, 3, 0);
        Check.due(-1, x.bars(0, 1));
        x.goods(0, 5);
        Check.due(11, x.bars(0, 0));
        Check.due(214, x.bars(0, 1));
        x.rule(1, 4, 0);
        Check.due(214, x.bars(1, 1));
        Check.due(0, x.count(12));
    }

    private static void release() {
        Check.topic("promise 25");
        PortHouse x = house();
        int box = Quay.loose(x, 0, 3, 5, 1);
        Check.due(0, x.release(box));
        int declaration = Quay.freed(x, box);
        Check.due(1, x.release(box));
        x.bar(2, box, 3, 1);
        Check.due(0, x.release(box));
        x.lift(2, box, 3, 2);
        Check.due(1, x.release(box));
        x.rule(2, 1, 10);
        Check.due(0, x.release(box));
        x.rule(2, 0, 0);
        int other = Quay.loose(x, 0, 3, 5, 1);
        x.join(box, other);
        Check.due(0, x.release(box));
        Quay.freed(x, other);
        Check.due(1, x.release(box));
        Check.due(1, x.release(other));
        x.bar(0, other, 0, 0);
        Check.due(0, x.release(box));
        x.lift(0, other, 0, 1);
        x.cancel(declaration);
        Check.due(0, x.release(other));
        Check.thrown(Check.ARGUMENT, () -> x.release(-1));
        Check.thrown(Check.ARGUMENT, () -> x.release(2));
    }

    private static void releaseAsksAll() {
        Check.topic("promise 25, failures of all boxes and rules, each time");
        PortHouse x = house();
        for (int b = 0; b < 3; b++) {
            x.box(0, b, 0, 0, 3, 5, 1);
        }
        x.join(0, 2);
        x.goods(2, 1);
        x.rule(1, 4, 0);
        x.rule(3, 3, 0);
        x.rule(0, 2, 0);
        Check.due(0, x.release(2));
        Check.due(2, x.count(12));
        Check.due(1, x.count(14));
        Check.due(0, x.count(11));
        x.release(1);
        Check.due(3, x.count(12));
        Check.due(1, x.count(14));
        x.bars(0, 2);
        Check.due(3, x.count(12));
        x.release(0);
        Check.due(5, x.count(12));
        Check.due(2, x.count(14));
    }

    private static void bars() {
        Check.topic("promise 26");
        PortHouse x = house();
        x.box(0, 0, 0, 0, 3, 5, 1);
        x.bar(1, 0, 7, 0);
        x.bar(1, 0, 2, 0);
        x.bar(1, 0, 2, 0);
        x.bar(3, 0, 0, 0);
        x.bar(0, 0, 9, 0);
        x.rule(1, 4, 0);
        x.rule(3, 1, 5);
        int[] want = {10, 109, 202, 207, 214, 400, 413, -1, -1};
        for (int i = 0; i < want.length; i++) {
            Check.due(want[i], x.bars(0, i));
        }
        Check.due(-1, x.bars(0, -1));
        Check.due(-1, x.bars(0, Integer.MIN_VALUE));
        Check.due(-1, x.bars(0, Integer.MAX_VALUE));
        Check.thrown(Check.ARGUMENT, () -> x.bars(1, 0));
        Check.thrown(Check.ARGUMENT, () -> x.bars(-1, 0));
    }

    private static void barsOfGroup() {
        Check.topic("promise 26, of the group by numbers");
        PortHouse x = house();
        for (int b = 0; b < 4; b++) {
            x.box(0, b % 3, 0, 0, 3, 5, 1);
        }
        x.goods(1, 5);
        x.bar(0, 1, 4, 0);
        x.bar(2, 3, 5, 0);
        x.join(3, 1);
        int[] want = {11, 104, 10, 305, -1};
        for (int i = 0; i < want.length; i++) {
            Check.due(want[i], x.bars(3, i));
            Check.due(want[i], x.bars(1, i));
        }
        Check.due(10, x.bars(0, 0));
        Check.due(-1, x.bars(0, 1));
    }

    private static void part() {
        Check.topic("promise 27");
        PortHouse x = house();
        int box = Quay.standing(x, 0, 3, 5, 1);
        Check.due(-1, x.part(box, 1));
        Quay.freed(x, box);
        Check.due(1000, x.part(box, 1000));
        Check.due(-1, x.part(box, 2001));
        Check.due(-1, x.part(box, Integer.MAX_VALUE));
        Check.due(3000, x.part(box, 2000));
        Check.due(-1, x.part(box, 1));
        Check.due(3000, x.look(box, 1));
        Check.thrown(Check.ARGUMENT, () -> x.part(box, 0));
        Check.thrown(Check.ARGUMENT, () -> x.part(1, 1));
        Check.thrown(Check.ARGUMENT, () -> x.part(-1, 1));
        Check.topic("promise 27, also of a box aboard");
        int aboard = x.box(0, 0, 0, 0, 4, 5, 1);
        Quay.freed(x, aboard);
        Check.due(4000, x.part(aboard, 4000));
    }

    private static void partAsksFirst() {
        Check.topic("promise 27, RELEASE is asked first");
        PortHouse x = house();
        int box = Quay.loose(x, 0, 3, 5, 1);
        x.rule(1, 4, 0);
        Check.due(-1, x.part(box, 1));
        Check.due(1, x.count(12));
        x.away(box, BOND, true);
        Check.due(-1, x.part(box, 1));
        Check.due(2, x.count(12));
        Check.due(-1, x.part(box, 9000));
        Check.due(3, x.count(12));
        Check.thrown(Check.ARGUMENT, () -> x.part(box, 0));
        Check.due(3, x.count(12));
        Check.due(0, x.count(9));
    }

    private static void withdraw() {
        Check.topic("promise 28");
        PortHouse x = house();
        int box = Quay.loose(x, 0, 3, 5, 1);
        Check.due(2, x.withdraw(box));
        Check.due(0, x.count(9));
        Quay.freed(x, box);
        x.part(box, 3000);
        Check.due(1, x.withdraw(box));
        Check.due(0, x.look(box, 1));
        Check.due(2, x.withdraw(box));
        x.part(box, 1000);
        x.away(box, BOND, true);
        Check.due(1, x.withdraw(box));
        x.away(box, BOND, false);
        x.part(box, 3000);
        Check.due(1, x.gate(box));
        Check.due(0, x.withdraw(box));
        Check.due(3000, x.look(box, 1));
        Check.due(0, x.withdraw(box));
        int[] want = {2, 4, 2, 4, 2, 3, 5, 5, -1};
        for (int i = 0; i < want.length; i++) {
            Check.due(want[i], x.notice(i));
        }
        Check.thrown(Check.ARGUMENT, () -> x.withdraw(-1));
        Check.thrown(Check.ARGUMENT, () -> x.withdraw(1));
    }

    private static void gate() {
        Check.topic("promise 29");
        PortHouse x = house();
        int box = Quay.standing(x, 0, 3, 5, 1);
        Quay.freed(x, box);
        x.part(box, 2999);
        Check.due(0, x.gate(box));
        x.take(box);
        Check.due(0, x.gate(box));
        x.part(box, 1);
        x.bar(0, box, 0, 0);
        Check.due(0, x.gate(box));
        x.lift(0, box, 0, 1);
        Check.due(0, x.look(box, 0));
        Check.due(1, x.gate(box));
        Check.due(1, x.look(box, 0));
        Check.due(1, x.count(10));
        Check.due(0, x.gate(box));
        Check.topic("promise 29, BEHIND it may not stand, nor be undone, nor go away, nor be parted");
        Check.due(-9, x.put(box, 0));
        Check.due(-1, x.choose(box));
        Check.due(-1, x.undo());
        Check.due(false, x.away(box, BOND, true));
        Check.due(false, x.away(box, BOND, false));
        Check.due(-1, x.part(box, 1));
        Check.thrown(Check.ARGUMENT, () -> x.gate(-1));
        Check.thrown(Check.ARGUMENT, () -> x.gate(1));
    }

    private static void gateAsksLast() {
        Check.topic("promise 29, RELEASE is asked only in the port, ASHORE, in no row");
        PortHouse x = house();
        int aboard = x.box(1, 0, 0, 0, 3, 5, 1);
        x.rule(0, 4, 0);
        Check.due(0, x.gate(aboard));
        Check.due(0, x.count(11));
        int box = Quay.standing(x, 0, 3, 5, 1);
        Check.due(0, x.gate(box));
        Check.due(0, x.count(11));
        x.take(box);
        Check.due(0, x.gate(box));
        Check.due(1, x.count(11));
        x.away(box, BOND, true);
        Check.due(0, x.gate(box));
        Check.due(1, x.count(11));
    }

    private static void away() {
        Check.topic("promise 30");
        PortHouse x = house();
        int box = Quay.standing(x, 0, 3, 5, 1);
        int aboard = x.box(1, 0, 0, 0, 3, 5, 1);
        Check.due(false, x.away(box, BOND, true));
        x.take(box);
        x.bar(0, box, 0, 0);
        Check.due(false, x.away(box, BOND - 1, true));
        Check.due(false, x.away(box, 1 << 16, true));
        Check.due(false, x.away(box, BOND, false));
        Check.due(true, x.away(box, BOND, true));
        Check.due(2, x.look(box, 0));
        Check.due(false, x.away(box, BOND, true));
        Check.due(false, x.away(box, 0, false));
        Check.due(true, x.away(box, -1, false));
        Check.due(0, x.look(box, 0));
        Check.due(true, x.away(box, 1 << 20 | BOND, true));
        Check.due(false, x.away(aboard, BOND, true));
        Check.due(false, x.away(-1, BOND, true));
        Check.due(false, x.away(2, BOND, true));
        Check.due(1, x.count(9));
        Check.due(0, x.count(10));
    }

    private static void awayAndPart() {
        Check.topic("promise 27, not of a box that is AWAY");
        PortHouse x = house();
        int box = Quay.loose(x, 0, 3, 5, 1);
        Quay.freed(x, box);
        x.away(box, BOND, true);
        Check.due(-1, x.part(box, 1));
        x.away(box, BOND, false);
        Check.due(1, x.part(box, 1));
    }

    private static void notices() {
        Check.topic("promise 31");
        PortHouse x = house();
        int other = Quay.loose(x, 0, 3, 5, 1);
        int box = Quay.loose(x, 0, 3, 5, 1);
        x.bar(0, box, 0, 0);
        x.bar(0, box, 0, 0);
        x.bar(0, other, 0, 0);
        x.lift(0, box, 0, 1);
        x.lift(0, box, 0, 1);
        Quay.freed(x, box);
        x.part(box, 3000);
        x.gate(box);
        x.withdraw(box);
        int[] want = {10, 0, 11, 12, 13, 15, -1};
        for (int i = 0; i < want.length; i++) {
            Check.due(want[i], x.notice(i));
        }
        Check.due(6, x.count(9));
        Check.due(-1, x.notice(-1));
        Check.due(-1, x.notice(Integer.MAX_VALUE));
    }

    private static void noticesKept() {
        Check.topic("promise 31, the latest 64");
        PortHouse x = house();
        for (int b = 0; b < 4; b++) {
            x.box(0, b % 3, 0, 0, 3, 5, 1);
        }
        for (int i = 0; i < 70; i++) {
            x.bar(i / 10 % 4, i % 4, i / 4 % 10, 0);
            x.lift(i / 10 % 4, i % 4, i / 4 % 10, 1);
        }
        Check.due(140, x.count(9));
        for (int i = 0; i < 64; i++) {
            int step = 140 - 64 + i;
            Check.due(10 * (step / 2 % 4) + step % 2, x.notice(i));
        }
        Check.due(-1, x.notice(64));
    }

    private static void look() {
        Check.topic("promise 32");
        PortHouse x = house();
        x.box(0, 0, 0, 0, 3, 5, 1);
        x.goods(0, 1);
        x.goods(0, 1);
        x.bar(0, 0, 1, 0);
        x.bar(0, 0, 1, 0);
        x.rule(0, 4, 0);
        int[] want = {0, 0, 1, 2, 0, 1};
        for (int what = 0; what < want.length; what++) {
            Check.due(want[what], x.look(0, what));
        }
        int[][] wrong = {{-1, 0}, {1, 0}, {0, -1}, {0, 6}};
        for (int[] a : wrong) {
            Check.thrown(Check.INDEX, () -> x.look(a[0], a[1]));
        }
    }
}
