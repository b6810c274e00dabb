/** Promises 41 to 46: the tape, reading, nodes, printing and the value of rates. */
public final class RatesTest {
    private static final int NONE = PortHouse.NONE;

    public static void main(String[] args) {
        type();
        typeFull();
        rate();
        rateEmptiesTape();
        badWordsAndNumbers();
        badSteps();
        badEnds();
        badTooMany();
        badTooDeep();
        nodes();
        nodeOrder();
        nodeSteps();
        nodeBounds();
        print();
        printBrackets();
        printed();
        worthSingle();
        worthJoined();
        worthSteps();
        worthBounds();
        worthUnits();
        Check.end();
    }

    private static PortHouse house() {
        PortHouse x = new PortHouse(1, 1, 1, 1, 1);
        x.row(12, 3, 0, 10, 0, 0, 0);
        return x;
    }

    private static void good(int nodes, String text) {
        Check.topic("promise 42, \"" + text + "\"");
        Check.due(nodes, Tape.rate(house(), 1, text));
    }

    private static void bad(int place, String text) {
        Check.topic("promise 42, \"" + text + "\"");
        Check.due(-1 - place, Tape.rate(house(), 1, text));
    }

    private static void type() {
        Check.topic("promise 41");
        PortHouse x = house();
        Check.due(true, x.type(0x66726565L, 4));
        Check.due(4, x.count(17));
        Check.due(1, x.rate(1));
        Check.due(true, x.type(0x7FFFFF66L, 1));
        Check.due(true, x.type(0xFF00726565L, 3));
        Check.due(1, x.rate(1));
        Check.due(false, x.type(0x2020L, 0));
        Check.due(false, x.type(0x2020L, -1));
        Check.due(false, x.type(0x2020202020202020L, 9));
        Check.due(false, x.type(0x20L, 2));
        Check.due(false, x.type(0x1F20L, 2));
        Check.due(false, x.type(0x207FL, 2));
        Check.due(false, x.type(0xFF20L, 2));
        Check.due(false, x.type(-1L, 8));
        Check.due(0, x.count(17));
        Check.due(true, x.type(0x207E20L, 3));
        Check.due(true, x.type(0x2020202020202020L, 8));
        Check.due(11, x.count(17));
        Check.topic("promise 41, the highest byte of eight");
        PortHouse y = house();
        Check.due(true, y.type(0x2066726565202020L, 8));
        Check.due(1, y.rate(1));
    }

    private static void typeFull() {
        Check.topic("promise 41, 400 signs");
        PortHouse x = house();
        for (int i = 0; i < 49; i++) {
            Check.due(true, x.type(0x2020202020202020L, 8));
        }
        Check.due(true, x.type(0x66726565L, 4));
        Check.due(396, x.count(17));
        Check.due(false, x.type(0x2020202020L, 5));
        Check.due(396, x.count(17));
        Check.due(true, x.type(0x20202020L, 4));
        Check.due(400, x.count(17));
        Check.due(false, x.type(0x20L, 1));
        Check.due(1, x.rate(1));
    }

    private static void rate() {
        good(1, "free");
        good(1, "  free  ");
        good(1, "5%");
        good(1, "12345.123 %");
        good(1, "0.1%");
        good(1, "2/A");
        good(1, "2 / H");
        good(1, "(free)");
        good(1, "( ( free ) )");
        good(3, "5%+2/A");
        good(3, "5% - 2/A");
        good(5, "1%+2%-3%");
        good(3, "min(1%,2%)");
        good(3, "max ( 1% , 2% )");
        good(1, "step(1:1=1)");
        good(1, "step ( 999999 : 0 = 0 , 999999 = 999999 )");
        good(1, "step(1:1=1,2=1,3=1,4=1,5=1,6=1)");
        good(7, "min(free+free,max(free,free))");
        good(5, "free+(free+free)");
    }

    private static void rateEmptiesTape() {
        Check.topic("promise 42, the tape is empty in any case, a bad one leaves what was");
        PortHouse x = house();
        Tape.type(x, "5%");
        Check.thrown(Check.ARGUMENT, () -> x.rate(2));
        Check.due(0, x.count(17));
        Tape.type(x, "5%");
        Check.thrown(Check.ARGUMENT, () -> x.rate(0));
        Check.due(0, x.count(17));
        Check.due(-1, x.rate(1));
        Check.due(3, Tape.rate(x, 1, "5% + 2/A"));
        Check.due(-3, Tape.rate(x, 1, "7%x"));
        Check.due("5% + 2/A", Tape.printed(x, 1));
        Check.due(1, Tape.rate(x, 1, "7%"));
        Check.due("7%", Tape.printed(x, 1));
        Check.topic("promise 42, again and again");
        for (int i = 0; i < 50; i++) {
            Check.due(1, Tape.rate(x, 1, "step(1:1=1,2=2,3=3,4=4,5=5,6=6)"));
        }
        Check.due("step(1: 1=1, 2=2, 3=3, 4=4, 5=5, 6=6)", Tape.printed(x, 1));
    }

    private static void badWordsAndNumbers() {
        bad(0, "x");
        bad(0, "fre");
        bad(0, "freed");
        bad(0, "freez");
        bad(0, "freea");
        bad(5, "free zz");
        bad(0, "minx(1%,2%)");
        bad(0, "FREE");
        bad(2, "  Free");
        bad(0, "%");
        bad(0, ")");
        bad(0, "+5%");
        bad(0, ".5%");
        bad(0, "123456%");
        bad(0, "1.1234%");
        bad(0, "1.");
        bad(0, "1.%");
        bad(0, "1. 5%");
        bad(4, "5% +1.");
        bad(3, "5%+1.2345%");
        bad(2, "1 .5%");
        bad(1, "5x");
        bad(2, "5 5%");
        bad(2, "2/I");
        bad(2, "2/a");
        bad(3, "2/AB");
        bad(2, "5%%");
        bad(2, "5%5%");
        bad(4, "free5%");
        bad(5, "free free");
        bad(4, "free(");
        bad(3, "min5%");
        bad(6, "min(1%)");
        bad(9, "min(1%,2%,3%)");
        bad(4, "min(,2%)");
        bad(4, "min()");
        bad(1, "()");
        bad(5, "(free]");
        bad(4, "free)");
        bad(2, "5%*2%");
        bad(2, "5%,2%");
        bad(3, "5% =");
    }

    private static void badSteps() {
        bad(5, "step(:1=1)");
        bad(5, "step(1234567:1=1)");
        bad(6, "step(1.5:1=1)");
        bad(6, "step(1=1)");
        bad(7, "step(1:)");
        bad(8, "step(1:1)");
        bad(8, "step(1:1:1)");
        bad(9, "step(1:1=)");
        bad(9, "step(1:1=1234567)");
        bad(7, "step(1:1234567=1)");
        bad(10, "step(1:1=1.5)");
        bad(11, "step(1:1=1,)");
        bad(11, "step(1:1=1,1=1)");
        bad(11, "step(1:5=1,4=1)");
        bad(12, "step(1:5=1, 4 = 1)");
        bad(13, "step(1:5=1,4=)");
        bad(13, "step(1:5=1,4=x)");
        bad(13, "step(1:5=1,4=1234567)");
        bad(12, "step(1:5=1,4)");
        bad(31, "step(1:1=1,2=1,3=1,4=1,5=1,6=1,7=1)");
        bad(33, "step(1:1=1,2=1,3=1,4=1,5=1,6=1,7=)");
        bad(31, "step(1:1=1,2=1,3=1,4=1,5=1,6=1,x=1)");
        bad(4, "step1:1=1)");
        bad(10, "step(1:1=1;2=1)");
    }

    private static void badEnds() {
        bad(0, "");
        bad(3, "   ");
        bad(1, "5");
        bad(2, "5 ");
        bad(2, "2/");
        bad(3, "5%+");
        bad(4, "5%- ");
        bad(1, "(");
        bad(5, "(free");
        bad(3, "min");
        bad(4, "min(");
        bad(6, "min(1%");
        bad(7, "min(1%,");
        bad(9, "min(1%,2%");
        bad(4, "step");
        bad(5, "step(");
        bad(6, "step(1");
        bad(7, "step(1:");
        bad(8, "step(1:1");
        bad(9, "step(1:1=");
        bad(10, "step(1:1=1");
        bad(11, "step(1:1=1,");
        bad(12, "step(1:1=1,2");
    }

    // So many parts with + between them, from the left: 2 n - 1 nodes.
    private static String chain(int parts) {
        StringBuilder s = new StringBuilder("1%");
        for (int i = 1; i < parts; i++) {
            s.append("+1%");
        }
        return s.toString();
    }

    private static void badTooMany() {
        good(59, chain(30));
        bad(90, chain(31));
        bad(96, "free+min(1%," + chain(29) + ")-free");
        bad(97, "((" + chain(30) + ") ) + free");
        bad(94, "( " + chain(30) + " )-free");
        String full = "min(" + chain(29) + ", free)";
        good(59, full);
        bad(full.length() + 1, full + "+min(1%,2%)");
        bad(full.length() + 2, full + "+ 1.%");
        bad(full.length() + 3, full + "+ (free");
        bad(full.length() + 3, full + "+((free");
        bad(full.length() + 1, full + "+step(x");
        bad(full.length() + 1, full + "+x");
        bad(full.length() - 1, "(1%+" + full + ")-free");
    }

    private static String nested(String open, int deep, String inner, String close) {
        return open.repeat(deep) + inner + close.repeat(deep);
    }

    private static void badTooDeep() {
        good(1, nested("(", 12, "free", ")"));
        bad(12, nested("(", 13, "free", ")"));
        bad(12, nested("(", 13, "", ""));
        good(25, nested("min(1%,", 12, "free", ")"));
        bad(7 * 12, nested("min(1%,", 13, "free", ")"));
        good(25, nested("max(", 12, "free", ",1%)"));
        bad(4 * 12, nested("max(", 13, "free", ",1%)"));
        good(1, nested("(", 12, "step(1:1=1)", ")"));
        bad(12, nested("(", 12, "max(1%,2%)", ")"));
        good(3, nested("(", 11, "max(1%,2%)", ")"));
        good(3, nested("(", 12, "free", ")") + "+" + nested("(", 12, "free", ")"));
        bad(6 * 2 + 6 * 7, "( ".repeat(6) + "min(1%,".repeat(7));
    }

    private static void node(PortHouse x, int i, int... want) {
        for (int what = 0; what < want.length; what++) {
            Check.due(want[what], x.node(1, i, what));
        }
    }

    private static void nodes() {
        Check.topic("promise 43");
        PortHouse x = house();
        Tape.rate(x, 1, "max(12345.6%, 0.007/H) - free");
        node(x, 0, 4, 0, NONE, 1, 4, 0);
        node(x, 1, 6, 0, NONE, 2, 3, 0);
        node(x, 2, 1, 12345600, NONE, NONE, NONE, 0);
        node(x, 3, 2, 7, 7, NONE, NONE, 0);
        node(x, 4, 0, 0, NONE, NONE, NONE, 0);
    }

    private static void nodeOrder() {
        Check.topic("promise 43, + and - go from the left");
        PortHouse x = house();
        Tape.rate(x, 1, "1% - 2% + (3% - min(4%, 5% + 6%))");
        node(x, 0, 3, 0, NONE, 1, 4, 0);
        node(x, 1, 4, 0, NONE, 2, 3, 0);
        node(x, 2, 1, 1000, NONE, NONE, NONE, 0);
        node(x, 3, 1, 2000);
        node(x, 4, 4, 0, NONE, 5, 6, 0);
        node(x, 5, 1, 3000);
        node(x, 6, 5, 0, NONE, 7, 8, 0);
        node(x, 7, 1, 4000);
        node(x, 8, 3, 0, NONE, 9, 10, 0);
        node(x, 9, 1, 5000);
        node(x, 10, 1, 6000);
    }

    private static void nodeSteps() {
        Check.topic("promise 43, steps");
        PortHouse x = house();
        Tape.rate(x, 1, "step(700:1=2,3=4)+step(012:5=6)");
        node(x, 0, 3, 0, NONE, 1, 2, 0);
        node(x, 1, 7, 700, NONE, NONE, NONE, 2);
        node(x, 2, 7, 12, NONE, NONE, NONE, 1);
        Check.due("step(700: 1=2, 3=4) + step(12: 5=6)", Tape.printed(x, 1));
    }

    private static void nodeBounds() {
        Check.topic("promise 43, what there is not");
        PortHouse x = house();
        Check.thrown(Check.INDEX, () -> x.node(1, 0, 0));
        Tape.rate(x, 1, "free");
        int[][] wrong = {{0, 0, 0}, {2, 0, 0}, {-1, 0, 0}, {1, -1, 0}, {1, 1, 0}, {1, 0, -1}, {1, 0, 6}};
        for (int[] a : wrong) {
            Check.thrown(Check.INDEX, () -> x.node(a[0], a[1], a[2]));
        }
    }

    private static void prints(String want, String text) {
        Check.topic("promise 44, \"" + text + "\"");
        PortHouse x = house();
        Check.due(true, Tape.rate(x, 1, text) > 0);
        Check.due(want.length(), x.print(1));
        Check.due(want, Tape.printed(x, 1));
    }

    private static void print() {
        prints("free", " free ");
        prints("5%", "005.000%");
        prints("0%", "0%");
        prints("0.5%", "00.50 %");
        prints("0.05%", "0.05%");
        prints("0.001%", "0.001%");
        prints("7.1/B", "7.100/B");
        prints("10.005%", "10.005%");
        prints("99999.999/H", "99999.999 / H");
        prints("100/A", "100/A");
        prints("min(1%, 2/B)", "min(1%,2/B)");
        prints("max(free, free)", "max( free,free )");
        prints("step(0: 0=0)", "step(000:00=0)");
        prints("step(999999: 10=100, 1000=999999)", "step(999999:10=100,1000=999999)");
        Check.topic("promise 44, what can't be printed");
        PortHouse x = house();
        Check.thrown(Check.ARGUMENT, () -> x.print(1));
        Check.thrown(Check.ARGUMENT, () -> x.print(0));
        Check.thrown(Check.ARGUMENT, () -> x.print(2));
        Check.thrown(Check.ARGUMENT, () -> x.print(-1));
    }

    private static void printBrackets() {
        prints("1% + 2% - 3%", "(1%+2%)-3%");
        prints("1% + (2% - 3%)", "1%+(2%-3%)");
        prints("1% - (2% + 3%)", "1%-((2%+3%))");
        prints("1% + min(2% + 3%, 4% - 5%)", "1%+min((2%+3%),4%-5%)");
        prints("1% - (2% - (3% - 4%)) + 5%", "1%-(2%-(3%-4%))+5%");
        prints("max(1%, 2%) + step(1: 2=3)", "(max(1%,2%))+(step(1:2=3))");
    }

    private static void printed() {
        Check.topic("promise 45");
        PortHouse x = house();
        Check.thrown(Check.INDEX, () -> x.printed(0));
        Tape.rate(x, 1, "7.5%");
        Check.thrown(Check.INDEX, () -> x.printed(0));
        Check.due(4, x.print(1));
        Check.due(4, x.count(18));
        Check.due('7', x.printed(0));
        Check.due('%', x.printed(3));
        Check.thrown(Check.INDEX, () -> x.printed(4));
        Check.thrown(Check.INDEX, () -> x.printed(-1));
        Check.thrown(Check.ARGUMENT, () -> x.print(2));
        Check.due('.', x.printed(1));
        Tape.rate(x, 1, "5%");
        Check.due('7', x.printed(0));
        x.print(1);
        Check.due(2, x.count(18));
        Check.thrown(Check.INDEX, () -> x.printed(2));
    }

    private static void worth(long want, String text, long price, int unit, long amount) {
        Check.topic("promise 46, \"" + text + "\" at " + price);
        Check.due(want, Tape.house(text).worth(1, price, unit, amount));
    }

    private static void worthSingle() {
        worth(0, "free", 500, 0, 0);
        worth(1000000000L, "5%", 20000, 0, 0);
        worth(10, "0.001%", 1, 0, 0);
        worth(99999999000000000L, "99999.999%", 100000000L, 0, 0);
        worth(2000000, "2/A", 0, 0, 1000);
        worth(1, "0.001/H", 0, 7, 1);
        worth(9999999900000000L, "99999.999/C", 0, 2, 100000000L);
        worth(0, "2/A", 50, 0, 0);
    }

    private static void worthJoined() {
        worth(5000000, "2% + 3%", 100, 0, 0);
        worth(1000000, "3% - 2%", 100, 0, 0);
        worth(0, "2% - 3%", 100, 0, 0);
        worth(1000000, "2% - 3% + 2%", 100, 0, 0);
        worth(4000000, "1% - (2% - 5%)", 100, 0, 0);
        worth(2000000, "min(2%, 3%)", 100, 0, 0);
        worth(3000000, "max(2%, 3%)", 100, 0, 0);
        worth(2000000, "max(3% - 4%, 2%)", 100, 0, 0);
        worth(0, "min(3% - 4%, 2%)", 100, 0, 0);
        worth(3000000, "max(2% - 4%, 5%) - 2%", 100, 0, 0);
        worth(1000000, "min(5%, 2/B) - min(1%, 9/B)", 100, 1, 1000);
    }

    private static void worthSteps() {
        String steps = "step(1000:100=7,200=9,400=11)";
        worth(0, steps, 1001, 0, 0);
        worth(7000000, steps, 1000, 0, 0);
        worth(7000000, steps, 501, 0, 0);
        worth(9000000, steps, 500, 0, 0);
        worth(9000000, steps, 251, 0, 0);
        worth(11000000, steps, 250, 0, 0);
        worth(11000000, steps, 1, 0, 0);
        worth(11000000, steps, 0, 0, 0);
        worth(0, "step(1:1000=5)", 1, 0, 0);
        worth(5000000, "step(1:1000=5)", 0, 0, 0);
        worth(5000000, "step(1:0=5)", 100000000L, 0, 0);
        worth(999999000000L, "step(999999:999999=999999)", 99, 0, 0);
        worth(0, "step(999998:999999=999999)", 100, 0, 0);
        worth(12000000, "step(5:1=5) + step(5:1=7)", 5, 0, 0);
    }

    private static void worthBounds() {
        Check.topic("promise 46, what can't be");
        PortHouse x = Tape.house("5%");
        x.row(13, 0, 0, 0, 0, 0, 0);
        Check.thrown(Check.ARGUMENT, () -> x.worth(0, 0, 0, 0));
        Check.thrown(Check.ARGUMENT, () -> x.worth(3, 0, 0, 0));
        Check.thrown(Check.ARGUMENT, () -> x.worth(2, 0, 0, 0));
        Check.thrown(Check.ARGUMENT, () -> x.worth(1, -1, 0, 0));
        Check.thrown(Check.ARGUMENT, () -> x.worth(1, 100000001L, 0, 0));
        Check.thrown(Check.ARGUMENT, () -> x.worth(1, 0, -1, 0));
        Check.thrown(Check.ARGUMENT, () -> x.worth(1, 0, 8, 0));
        Check.thrown(Check.ARGUMENT, () -> x.worth(1, 0, 0, -1));
        Check.thrown(Check.ARGUMENT, () -> x.worth(1, 0, 0, 100000001L));
        Check.due(0, x.worth(1, 0, 7, 100000000L));
        Check.thrown(Check.ARGUMENT, () -> x.worth(1, Long.MIN_VALUE, 0, 0));
    }

    private static void worthUnits() {
        Check.topic("promise 46, units without an amount");
        PortHouse x = Tape.house("min(1/B, free) + 2/B");
        Check.due(4000000L, x.worth(1, 0, 1, 2000));
        Check.thrown(Check.UNSUPPORTED, () -> x.worth(1, 0, 0, 2000));
        Check.thrown(Check.ARGUMENT, () -> x.worth(1, -1, 0, 2000));
        PortHouse y = Tape.house("min(1/B, free) + 2/C");
        Check.thrown(Check.UNSUPPORTED, () -> y.worth(1, 0, 1, 2000));
        Check.thrown(Check.UNSUPPORTED, () -> y.worth(1, 0, 2, 2000));
        Check.topic("promise 46, another rate has other units");
        Check.due(1, Tape.rate(y, 1, "2/C"));
        Check.due(4000000L, y.worth(1, 0, 2, 2000));
    }
}
