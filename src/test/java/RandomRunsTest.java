import java.lang.reflect.InvocationTargetException;
import java.lang.reflect.Method;
import java.util.ArrayList;
import java.util.Arrays;
import java.util.HashMap;
import java.util.List;
import java.util.Map;

/** Runs of random calls (the same ones each time), on the class and on the model: all answers must agree. */
public final class RandomRunsTest {
    private static final Map<String, Method> FACE = methods(PortHouse.class);
    private static final Map<String, Method> MODEL = methods(Model.class);
    private static final int RUNS = 500;
    private static final int CALLS = 512;

    private final long[] size;
    private final PortHouse house;
    private final Model model;
    private final List<String> told = new ArrayList<>();
    private long seed;
    private int calls;
    private boolean agrees = true;

    private RandomRunsTest(int run) {
        seed = 77L * run + 5;
        size = new long[] {1 + pick(3), 1 + pick(4), 1 + pick(7), 1 + pick(6), 20 + pick(chance(30) ? 60 : 380)};
        house = new PortHouse((int) size[0], (int) size[1], (int) size[2], (int) size[3], (int) size[4]);
        model = new Model((int) size[0], (int) size[1], (int) size[2], (int) size[3], (int) size[4]);
    }

    public static void main(String[] args) {
        Check.due(87 - 1, FACE.size());
        int failed = 0;
        for (int run = 0; run < RUNS && failed < 3; run++) {
            RandomRunsTest t = new RandomRunsTest(run);
            t.go(run % 5);
            Check.topic("random run " + run);
            Check.due(true, t.agrees);
            failed += t.agrees ? 0 : 1;
        }
        Check.end();
    }

    private static Map<String, Method> methods(Class<?> of) {
        Map<String, Method> all = new HashMap<>();
        for (Method m : of.getDeclaredMethods()) {
            if (java.lang.reflect.Modifier.isPublic(m.getModifiers())) {
                m.setAccessible(true);
                all.put(m.getName(), m);
            }
        }
        return all;
    }

    // ---- chance

    private int pick(int n) {
        seed = seed * 6364136223846793005L + 1442695040888963407L;
        return (int) Math.floorMod(seed >>> 33, (long) n);
    }

    private boolean chance(int percent) {
        return pick(100) < percent;
    }

    private long wild() {
        long[] edges = {-1, -2, 0, 1, 12, 31, 32, 100, 401, 1001, 10001, 20000, 65536, 100001, 1000001,
            Integer.MAX_VALUE, Integer.MIN_VALUE};
        return edges[pick(edges.length)];
    }

    /** A number of one of so many things, now and then none. */
    private long of(long n) {
        if (chance(3)) {
            return chance(50) ? n : wild();
        }
        return n <= 0 ? 0 : pick((int) n);
    }

    /** A number of one of so many things that are counted from 1. */
    private long from1(long n) {
        return of(n) + (chance(98) ? 1 : 0);
    }

    private long between(int lo, int hi) {
        return chance(2) ? wild() : lo + pick(hi - lo + 1);
    }

    // ---- calls

    private long call(String name, long... args) {
        Object[] a = fitted(FACE.get(name), args);
        Object got = answer(FACE.get(name), house, a);
        Object due = answer(MODEL.get(name), model, a);
        calls++;
        told.add(name + Arrays.toString(args) + " " + got);
        if (!got.equals(due) && agrees) {
            agrees = false;
            List<String> ahead = told.subList(Math.max(0, told.size() - 40), told.size() - 1);
            System.out.println("house " + Arrays.toString(size) + ": " + name + Arrays.toString(args) + " answered "
                    + got + ", due is " + due + ", behind " + ahead);
        }
        return got instanceof Number ? ((Number) got).longValue() : got.equals(true) ? 1 : 0;
    }

    private static Object[] fitted(Method m, long[] args) {
        Object[] all = new Object[args.length];
        for (int i = 0; i < args.length; i++) {
            Class<?> type = m.getParameterTypes()[i];
            if (type == int.class) {
                all[i] = (int) args[i];
            } else {
                all[i] = type == boolean.class ? (Object) (args[i] != 0) : args[i];
            }
        }
        return all;
    }

    private static Object answer(Method m, Object on, Object[] args) {
        try {
            Object got = m.invoke(on, args);
            return got == null ? "nothing" : got;
        } catch (InvocationTargetException e) {
            return "throws." + e.getCause().getClass().getSimpleName();
        } catch (IllegalAccessException e) {
            return "no access";
        }
    }

    private long count(int what) {
        return house.count(what);
    }

    private void go(int stress) {
        setUp();
        while (calls < CALLS && agrees) {
            int part = chance(60) ? stress : pick(5);
            if (part == 0) {
                port();
            } else if (part == 1) {
                gate();
            } else if (part == 2) {
                tariff();
            } else if (part == 3) {
                money();
            } else {
                quotas();
            }
            if (chance(15)) {
                look();
            }
        }
        for (int what = -1; what < 710 && agrees; what++) {
            call("count", what);
        }
        lookAtAll();
    }

    // Something of all, so that later calls find more than refusals.
    private void setUp() {
        for (int i = 0; i < 5; i++) {
            aNewBox();
        }
        workSome();
        aNewBox();
        workSome();
        String[] rates = {"10%", "min(5%, 3/A)", "step(700: 50=9, 120=44)", "2/B + 1%", "max(2%, 7/C) - 1%"};
        int[] kinds = {0, 1, 4, 5, pick(8)};
        for (int i = 0; i < 5; i++) {
            call("row", i == 4 ? 1234 : 12, i == 4 ? between(0, 5) : 31, 0, 20000, kinds[i], 0, i % 2 * 3);
            typeAndRead(rates[i], count(15));
        }
        for (int i = 0; i < 4; i++) {
            call("guarantee", i % 3, 1 + pick(4000), pick(4), 4 + pick(3), pick(4) / 3, pick(1000));
        }
        for (int i = 0; i < 3; i++) {
            call("order", 1 + pick(150), i, i + 9);
        }
    }

    private void aNewBox() {
        call("box", of(size[0]), of(3), chance(70) ? 0 : between(0, 5), chance(85) ? 0 : between(0, 8),
                chance(80) ? 10 - pick(3) : between(1, 40), between(0, 6), between(1, 2));
    }

    private long aBox() {
        return of(count(0));
    }

    /** A box that is ashore, and stands in the yard or not; any box if chance finds none such. */
    private long aBoxAshore(boolean stands) {
        for (int i = 0; i < 12 && count(0) > 0; i++) {
            int box = pick((int) count(0));
            boolean isTop = house.where(box, 0) != -1 && house.where(box, 2) == 0;
            if (house.aboard(box, 2) == 3 && house.look(box, 0) == 0 && (stands ? isTop : house.where(box, 0) == -1)) {
                return box;
            }
        }
        return aBox();
    }

    private long aRow() {
        return of(size[2]);
    }

    private void port() {
        switch (pick(16)) {
            case 0:
            case 1:
            case 2:
                aNewBox();
                break;
            case 3:
                call("before", aBox(), aBox());
                break;
            case 4:
            case 5:
                workSome();
                break;
            case 6:
                call("swap", aBox(), aBox());
                break;
            case 7:
                call("take", aBoxAshore(true));
                break;
            case 8:
            case 9:
                call("put", aBoxAshore(false), aRow());
                break;
            case 10:
                call("shift", aBoxAshore(true), aRow());
                break;
            case 11:
                call("night", chance(50) ? 1 : between(0, 5));
                break;
            case 12:
                call("undo");
                break;
            case 13:
                call("choose", aBoxAshore(false));
                break;
            case 14:
                call("ground", aRow(), between(0, 2));
                break;
            default:
                call("reserve", aRow(), between(0, 2));
                break;
        }
    }

    private void workSome() {
        long bay = of(size[0]);
        if (chance(60)) {
            call("before", count(0) - 1 - pick(4), count(0) - 1 - pick(4));
        }
        call("least", bay);
        long n = call("plan", bay);
        for (int i = 0; i < n; i++) {
            call("move", bay, i, of(4));
        }
        for (int i = 0; i < n && chance(90); i++) {
            call("work", bay);
        }
        call("work", bay);
    }

    private void gate() {
        long box = chance(60) ? aBoxAshore(chance(20)) : aBox();
        switch (pick(14)) {
            case 0:
                call("goods", box, between(1, 4000));
                break;
            case 1:
                call("bar", of(4), box, of(3), of(3));
                break;
            case 2:
            case 3:
                call("lift", of(4), box, of(3), chance(70) ? 65535 : between(0, 7));
                break;
            case 4:
                call("join", box, aBox());
                break;
            case 5:
                call("rule", of(4), chance(60) ? 0 : between(0, 4), between(0, 41000));
                break;
            case 6:
                call("release", box);
                break;
            case 7:
                boolean whole = chance(60) && box >= 0 && box < count(0);
                call("part", box, whole ? 1000L * house.where((int) box, 5) : between(1, 9000));
                break;
            case 8:
                call("withdraw", box);
                break;
            case 9:
                call("take", box);
                call("gate", box);
                break;
            case 10:
                call("away", box, chance(80) ? 32768 : between(0, 65535), pick(2));
                break;
            case 11:
                freeBox(box);
                break;
            default:
                letOut(box);
                break;
        }
    }

    // Clears all that bars a box, as far as it goes.
    private void letOut(long box) {
        if (box < 0 || box >= count(0)) {
            return;
        }
        call("take", box);
        for (int s = 0; s < 4 && chance(80); s++) {
            call("rule", s, 0, 0);
        }
        for (int i = 0; i < 4; i++) {
            int bar = house.bars((int) box, 0);
            if (bar >= 100 && house.look((int) box, 5) == 1) {
                call("lift", bar / 100 - 1, box, bar % 100, 65535);
            }
        }
        freeBox(box);
        call("part", box, 1000L * house.where((int) box, 5) - house.look((int) box, 1));
        call("gate", box);
        call("withdraw", box);
    }

    // Goods in a box, declared and secured, as far as it goes: else gates would hardly open.
    private void freeBox(long box) {
        long goods = call("goods", box, 1);
        long d = call("declare", goods, of(8), of(4), 990000, of(16), 0, 0);
        call("assess", d, 0);
        call("release", box);
    }

    private long aCode() {
        long[] codes = {12, 1234, 123456, 123457, 13, 1299, 120000, 9, 100, 12345};
        return codes[pick(chance(95) ? 7 : 10)];
    }

    private void tariff() {
        switch (pick(12)) {
            case 0:
            case 1:
            case 2:
                long from = between(0, 10);
                call("row", aCode(), chance(20) ? 31 : between(0, 23), from, chance(30) ? 20000 : from + pick(15) - 1,
                        between(0, 7), between(0, 2), between(0, 6));
                break;
            case 3:
                call("member", between(16, 19), between(0, 20));
                break;
            case 4:
                call("exclude", from1(count(15)), of(6));
                break;
            case 5:
                call("condition", from1(count(15)), of(6));
                break;
            case 6:
                call("end", from1(count(15)), chance(10) ? 20000 : between(0, 25), between(0, 8));
                break;
            case 7:
                call("papers", pick(1 << 18) - 7);
                break;
            case 8:
                long n = call("apply", chance(90) ? 123456 + pick(2) : aCode(), of(16), between(0, 20), between(0, 8));
                for (int i = 0; i <= n; i++) {
                    call("listed", i);
                }
                break;
            default:
                rate(from1(count(15)));
                break;
        }
    }

    private void rate(long row) {
        String text = chance(4) ? chain() : ratePart(chance(10) ? 14 : 3) + (chance(50) ? "" : "+" + ratePart(2));
        if (chance(35)) {
            int at = pick(text.length() + 1);
            String signs = "0123456789.%/AHIab()+-,:= mfxs";
            String put = chance(30) ? "" : signs.substring(pick(signs.length())).substring(0, 1);
            text = text.substring(0, at) + put + text.substring(Math.min(text.length(), at + pick(3)));
        }
        typeAndRead(text, row);
    }

    private void typeAndRead(String text, long row) {
        for (int i = 0; i < text.length(); i += 8) {
            String some = text.substring(i, Math.min(text.length(), i + 8));
            long word = chance(5) ? -1 : 0;
            for (char c : some.toCharArray()) {
                word = word << 8 | c;
            }
            call("type", word, chance(1) ? 9 : some.length());
        }
        long n = call("rate", row);
        for (int i = 0; i < Math.min(n, 12); i++) {
            call("node", row, i, of(6));
        }
        long signs = call("print", row);
        for (int i = 0; i < Math.min(signs, 60); i += 1 + pick(3)) {
            call("printed", i);
        }
        call("worth", row, price(), of(4), between(0, 5000));
    }

    private String chain() {
        StringBuilder s = new StringBuilder("1%");
        int n = 25 + pick(9);
        for (int i = 0; i < n; i++) {
            s.append(chance(50) ? "+1%" : "-2%");
        }
        return s.toString();
    }

    private String blank() {
        return chance(15) ? " " : "";
    }

    private String number() {
        return chance(3) ? "" + wild() : pick(chance(10) ? 100000 : 300) + (chance(40) ? "." + pick(1000) : "");
    }

    private String ratePart(int depth) {
        String b = blank();
        switch (depth <= 0 ? pick(4) : pick(10)) {
            case 0:
                return b + "free" + b;
            case 1:
            case 2:
                return b + number() + b + "%" + blank();
            case 3:
                return number() + b + "/" + b + (char) ('A' + pick(chance(3) ? 9 : 3)) + b;
            case 4:
                return "(" + b + ratePart(depth - 1) + b + ")";
            case 5:
                return "min" + b + "(" + ratePart(depth - 1) + "," + ratePart(depth - 2) + ")" + b;
            case 6:
                return "max(" + ratePart(depth - 2) + "," + b + ratePart(depth - 1) + b + ")";
            case 7:
                return steps();
            case 8:
                return "(" + ratePart(depth - 1) + "-" + ratePart(depth - 2) + ")";
            default:
                return ratePart(depth - 1) + (chance(50) ? "+" : "-") + b + ratePart(depth - 2);
        }
    }

    private String steps() {
        StringBuilder s = new StringBuilder("step" + blank() + "(" + blank() + pick(100000) + ":");
        int first = 0;
        for (int i = 0, n = 1 + pick(chance(10) ? 8 : 4); i < n; i++) {
            first += chance(4) ? 0 : 1 + pick(200);
            s.append(i > 0 ? "," : "").append(blank()).append(first).append(blank()).append('=').append(pick(5000));
        }
        return s + ")";
    }

    private long price() {
        return chance(5) ? wild() : chance(5) ? 0 : pick(chance(10) ? 100000000 : 3000);
    }

    private long aDeclaration() {
        return of(count(35));
    }

    private void declareOne() {
        long goods = call("goods", aBox(), between(1, 50));
        call("declare", chance(90) ? goods : of(count(8)), of(3), of(4), chance(95) ? 123456 + pick(2) : aCode(), of(6),
                between(0, 9), price());
        long d = count(35) - 1;
        for (int unit = 0; unit < 3; unit++) {
            if (chance(85)) {
                call("amount", d, unit, chance(5) ? -1 : between(0, 4000));
            }
        }
        if (chance(60)) {
            call("ask", d, of(count(19)), between(1, 60));
        }
        if (chance(50)) {
            call("assess", d, between(3, 8));
        }
    }

    /** A declaration in a state; any if chance finds none such. */
    private long aDeclarationIn(int state) {
        for (int i = 0; i < 12 && count(35) > 0; i++) {
            int d = pick((int) count(35));
            if (house.declared(d, 7) == state) {
                return d;
            }
        }
        return aDeclaration();
    }

    private long aKnownDay() {
        return Math.max(0, count(31)) + pick(3) - (chance(10) ? 1 : 0);
    }

    private void money() {
        switch (pick(20)) {
            case 0:
                call("guarantee", of(3), between(1, 3000), between(0, 3), between(1, 5), pick(3) / 2, between(0, 1000));
                break;
            case 1:
                call("first", from1(count(20)));
                break;
            case 2:
                if (chance(20)) {
                    call("shut", from1(count(20)));
                }
                break;
            case 3:
                call("fails", of(4), pick(2));
                break;
            case 4:
                call("tick", count(23) + pick(300) - 3);
                break;
            case 5:
                batch();
                break;
            case 6:
                call("reverse", of(count(28)), count(31) + pick(4) - 1);
                break;
            case 7:
                if (chance(20)) {
                    call("close", count(30) + pick(4));
                }
                break;
            case 8:
                call("share", of(4), of(4), between(0, 7));
                call("cost", of(4), between(0, 1000));
                call("passed", of(4), of(7), count(31) + pick(3) - 1);
                break;
            case 9:
            case 10:
            case 11:
                declareOne();
                break;
            case 12:
            case 13:
            case 14:
                call("assess", aDeclarationIn(0), between(0, 8));
                break;
            case 15:
                call("duty", aDeclaration(), between(0, 8));
                break;
            case 16:
                call("pay", aDeclarationIn(1), aKnownDay());
                break;
            case 17:
                call("claim", aDeclarationIn(1), aKnownDay());
                break;
            case 18:
                call("correct", aDeclarationIn(2 + pick(2)), between(0, 8));
                break;
            default:
                call("cancel", aDeclarationIn(pick(2)));
                break;
        }
    }

    private void batch() {
        long b = call("batch", between(0, 80), aKnownDay());
        long sum = 0;
        for (int i = 0, n = pick(5); i < n; i++) {
            long cents = between(-50, 50);
            sum += call("entry", b, of(12), cents) == 1 ? cents : 0;
        }
        if (chance(85)) {
            call("entry", b, of(12), -sum);
        }
        if (chance(20)) {
            call("failing", b, pick(4));
        }
        call("post", chance(90) ? b : of(count(28)));
    }

    private void quotas() {
        long order = of(count(19));
        switch (pick(9)) {
            case 0:
                long from = between(0, 12);
                call("order", between(1, 150), from, from + pick(8) - (chance(10) ? 1 : 0));
                break;
            case 1:
            case 2:
                call("run", order, chance(5) ? between(0, 401) : between(0, 16));
                break;
            case 3:
                call("block", order, between(0, 14), pick(3));
                break;
            case 4:
                call("transfer", order, of(count(19)), between(1, 60));
                break;
            case 5:
                call("again", aDeclarationIn(pick(4)), between(1, 80));
                break;
            case 6:
                call("balance", order, between(0, 20));
                call("quota", order, of(5));
                break;
            default:
                declareOne();
                break;
        }
    }

    private void look() {
        long box = aBox();
        call("aboard", box, of(4));
        call("where", box, of(9));
        call("at", aRow(), of(size[3]));
        call("look", box, of(6));
        call("bars", box, of(6));
        call("notice", of(count(9)));
        call("interest", from1(count(20)));
        call("free", of(8));
        call("list", of(8), of(4));
        call("security", from1(count(20)), of(9));
        call("reservation", from1(count(21)), of(12));
        call("account", of(12), between(0, 90), between(0, 30));
        call("statement", of(12), between(0, 2), between(0, 30));
        call("read", of(count(29)), of(5));
        call("batchOf", of(count(28)), of(7));
        call("declared", aDeclaration(), of(23));
        call("quota", of(count(19)), of(5));
        call("count", of(41));
    }

    private void each(String name, int from, long n, int whats) {
        for (int i = from; i < from + n && agrees; i++) {
            for (int what = 0; what < whats; what++) {
                call(name, i, what);
            }
        }
    }

    private void lookAtAll() {
        each("aboard", 0, count(0), 4);
        each("where", 0, count(0), 9);
        each("look", 0, count(0), 6);
        each("bars", 0, count(0), 8);
        each("at", 0, size[2], (int) size[3]);
        each("quota", 0, count(19), 5);
        each("balance", 0, count(19), 20);
        each("security", 1, count(20), 9);
        each("reservation", 1, count(21), 12);
        each("read", 0, count(29), 5);
        each("batchOf", 0, count(28), 7);
        each("declared", 0, count(35), 23);
        each("list", 0, 8, 5);
        for (int i = 0; i < 66 && agrees; i++) {
            call("notice", i);
        }
        for (int kind = 0; kind < 28 && agrees; kind++) {
            call("passed", kind / 7, kind % 7, 100000);
        }
    }
}
