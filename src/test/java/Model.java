import java.math.BigDecimal;
import java.math.BigInteger;
import java.math.RoundingMode;
import java.util.ArrayDeque;
import java.util.ArrayList;
import java.util.Arrays;
import java.util.HashMap;
import java.util.HashSet;
import java.util.LinkedHashSet;
import java.util.List;
import java.util.Map;
import java.util.Set;
import java.util.TreeMap;
import java.util.TreeSet;

/**
 * The document once more, in the plainest way and by other means than the class (lists, maps, whole recounts), so
 * that random runs can compare both answer by answer. Its methods have the names of the face.
 */
public final class Model {
    static final int NONE = -1;
    static final int OPEN = 20000;

    private static void arg(boolean ok) {
        if (!ok) {
            throw new IllegalArgumentException();
        }
    }

    private static void index(boolean ok) {
        if (!ok) {
            throw new IndexOutOfBoundsException();
        }
    }

    private static void state(boolean ok) {
        if (!ok) {
            throw new IllegalStateException();
        }
    }

    private static void can(boolean ok) {
        if (!ok) {
            throw new UnsupportedOperationException();
        }
    }

    private static boolean in(long n, long lo, long hi) {
        return lo <= n && n <= hi;
    }

    // ==== A

    private static final class Box {
        int port, kind, size, weight, leaves, ship, bay, stay, released, loaded;
        boolean ashore, aside;
        final List<Integer> goods = new ArrayList<>();
        final TreeMap<Integer, int[]> bars = new TreeMap<>();
    }

    private static final class Plan {
        final List<int[]> moves = new ArrayList<>();
        int next;
    }

    private final int bays, tiers, rows, high, bears;
    private final List<Box> boxes = new ArrayList<>();
    private final List<List<List<Integer>>> stacks = new ArrayList<>();
    private final Set<List<Integer>> needs = new HashSet<>();
    private final Plan[] plans;
    private int worked;

    public Model(int bays, int tiers, int rows, int high, int bears) {
        this.bays = Math.min(12, Math.max(1, bays));
        this.tiers = Math.min(4, Math.max(1, tiers));
        this.rows = Math.min(20, Math.max(1, rows));
        this.high = Math.min(8, Math.max(1, high));
        this.bears = Math.min(400, Math.max(1, bears));
        plans = new Plan[this.bays];
        for (int b = 0; b < this.bays; b++) {
            stacks.add(List.of(new ArrayList<>(), new ArrayList<>(), new ArrayList<>()));
        }
        for (int r = 0; r < this.rows; r++) {
            yard.add(new ArrayList<>());
        }
        grounds = new int[this.rows];
        reserved = new int[this.rows];
    }

    private boolean isBox(int b) {
        return in(b, 0, boxes.size() - 1);
    }

    private List<Integer> aboardOf(int bay) {
        List<Integer> all = new ArrayList<>();
        for (int b = 0; b < boxes.size(); b++) {
            if (boxes.get(b).bay == bay && !boxes.get(b).ashore) {
                all.add(b);
            }
        }
        return all;
    }

    public int box(int bay, int stack, int port, int sort, int weight, int leaves, int ship) {
        arg(in(bay, 0, bays - 1) && in(stack, 0, 2) && in(port, 0, 5) && in(sort, 0, 8) && in(weight, 1, 40)
                && in(leaves, 0, 1000) && in(ship, 1, 9));
        state(boxes.size() < 100 && aboardOf(bay).size() < 4 && stacks.get(bay).get(stack).size() < tiers);
        Box b = new Box();
        b.bay = bay;
        b.port = port;
        b.kind = sort / 3;
        b.size = sort % 3 + 1;
        b.weight = weight;
        b.leaves = leaves;
        b.ship = ship;
        boxes.add(b);
        int number = boxes.size() - 1;
        stacks.get(bay).get(stack).add(number);
        groups.add(new TreeSet<>(List.of(number)));
        plans[bay] = null;
        return number;
    }

    private boolean reaches(int from, int to) {
        if (from == to) {
            return true;
        }
        for (List<Integer> n : needs) {
            if (n.get(0) == from && reaches(n.get(1), to)) {
                return true;
            }
        }
        return false;
    }

    public boolean before(int box, int other) {
        if (!isBox(box) || !isBox(other)) {
            return false;
        }
        Box a = boxes.get(box);
        Box b = boxes.get(other);
        if (a.bay != b.bay || a.ashore || b.ashore || a.port != 0 || b.port != 0 || needs.contains(List.of(box, other))
                || reaches(other, box)) {
            return false;
        }
        needs.add(List.of(box, other));
        plans[a.bay] = null;
        return true;
    }

    // A state of a bay: three stacks, those aside by number, those ashore.
    private record Stowage(List<List<Integer>> stacks, List<Integer> aside, Set<Integer> ashore) {
        Stowage moved(int box, int to) {
            List<List<Integer>> s = new ArrayList<>();
            for (List<Integer> stack : stacks) {
                List<Integer> copy = new ArrayList<>(stack);
                copy.remove(Integer.valueOf(box));
                s.add(copy);
            }
            TreeSet<Integer> a = new TreeSet<>(aside);
            a.remove(box);
            Set<Integer> ashoreThen = new TreeSet<>(ashore);
            if (to < 3) {
                s.get(to).add(box);
            } else if (to == 3) {
                ashoreThen.add(box);
            } else {
                a.add(box);
            }
            return new Stowage(s, new ArrayList<>(a), ashoreThen);
        }
    }

    private List<int[]> movesOf(Stowage s) {
        List<int[]> all = new ArrayList<>();
        for (int from = 0; from < 3 + s.aside().size(); from++) {
            List<Integer> stack = from < 3 ? s.stacks().get(from) : null;
            if (stack != null && stack.isEmpty()) {
                continue;
            }
            int box = stack != null ? stack.get(stack.size() - 1) : s.aside().get(from - 3);
            for (int to = 0; to < (stack != null ? 5 : 3); to++) {
                boolean may = to < 3 ? to != from && s.stacks().get(to).size() < tiers : to == 4 || mayGo(s, box);
                if (may) {
                    all.add(new int[] {box, from, to});
                }
            }
        }
        return all;
    }

    private boolean mayGo(Stowage s, int box) {
        for (List<Integer> n : needs) {
            if (n.get(1) == box && !s.ashore().contains(n.get(0))) {
                return false;
            }
        }
        return boxes.get(box).port == 0;
    }

    private boolean isEnd(Stowage s) {
        for (List<Integer> stack : s.stacks()) {
            for (int b : stack) {
                if (boxes.get(b).port == 0) {
                    return false;
                }
            }
        }
        return s.aside().isEmpty();
    }

    // Whether an end can be reached within so many moves: a depth first search that grows by one.
    private boolean search(Stowage s, int left, List<int[]> way, Map<Stowage, Integer> tried) {
        if (isEnd(s)) {
            return true;
        }
        if (left == 0 || tried.getOrDefault(s, -1) >= left) {
            return false;
        }
        tried.put(s, left);
        for (int[] m : movesOf(s)) {
            way.add(m);
            if (search(s.moved(m[0], m[2]), left - 1, way, tried)) {
                return true;
            }
            way.remove(way.size() - 1);
        }
        return false;
    }

    private Stowage stowage(int bay) {
        Set<Integer> ashore = new TreeSet<>();
        List<Integer> aside = new ArrayList<>();
        for (int b = 0; b < boxes.size(); b++) {
            if (boxes.get(b).ashore) {
                ashore.add(b);
            }
            if (boxes.get(b).bay == bay && boxes.get(b).aside) {
                aside.add(b);
            }
        }
        return new Stowage(stacks.get(bay), aside, ashore);
    }

    public int plan(int bay) {
        arg(in(bay, 0, bays - 1));
        Plan p = new Plan();
        for (int depth = 0; depth <= 12; depth++) {
            p.moves.clear();
            if (search(stowage(bay), depth, p.moves, new HashMap<>())) {
                plans[bay] = p;
                return p.moves.size();
            }
        }
        plans[bay] = null;
        return NONE;
    }

    public int move(int bay, int i, int what) {
        index(in(bay, 0, bays - 1) && plans[bay] != null && in(i, 0, plans[bay].moves.size() - 1) && in(what, 0, 3));
        return what < 3 ? plans[bay].moves.get(i)[what] : i < plans[bay].next ? 1 : 0;
    }

    private int left(int bay) {
        return plans[bay] == null ? NONE : plans[bay].moves.size() - plans[bay].next;
    }

    public int work(int bay) {
        arg(in(bay, 0, bays - 1));
        state(left(bay) > 0);
        int[] m = plans[bay].moves.get(plans[bay].next);
        Box b = boxes.get(m[0]);
        int row = NONE;
        if (m[2] == 3) {
            b.ashore = true;
            row = best(m[0], new ArrayList<>(candidates(m[0], false)));
            b.ashore = false;
            if (row == NONE) {
                return NONE;
            }
        }
        for (List<Integer> stack : stacks.get(bay)) {
            stack.remove(Integer.valueOf(m[0]));
        }
        b.ashore = m[2] == 3;
        b.aside = m[2] == 4;
        if (m[2] < 3) {
            stacks.get(bay).get(m[2]).add(m[0]);
        }
        plans[bay].next++;
        worked++;
        if (row != NONE) {
            yardMove(m[0], row);
        }
        return left(bay);
    }

    public int least(int bay) {
        arg(in(bay, 0, bays - 1));
        int n = 0;
        for (int b : aboardOf(bay)) {
            boolean counts = boxes.get(b).port == 0;
            for (List<Integer> stack : stacks.get(bay)) {
                for (int below = 0; stack.contains(b) && below < stack.indexOf(b); below++) {
                    counts |= boxes.get(stack.get(below)).port == 0;
                }
            }
            n += counts ? 1 : 0;
        }
        return n;
    }

    private List<Integer> stackOf(int box) {
        for (List<Integer> stack : stacks.get(boxes.get(box).bay)) {
            if (stack.contains(box)) {
                return stack;
            }
        }
        return null;
    }

    public int swap(int box, int other) {
        arg(isBox(box) && isBox(other));
        for (List<Integer> n : needs) {
            if (n.contains(box) || n.contains(other)) {
                return 0;
            }
        }
        Box a = boxes.get(box);
        Box b = boxes.get(other);
        List<Integer> s = stackOf(box);
        List<Integer> t = stackOf(other);
        if (box == other || a.port != b.port || s == null || t == null) {
            return 0;
        }
        int i = s.indexOf(box);
        int j = t.indexOf(other);
        s.set(i, other);
        t.set(j, box);
        plans[a.bay] = null;
        plans[b.bay] = null;
        int bay = a.bay;
        a.bay = b.bay;
        b.bay = bay;
        return 1;
    }

    public int aboard(int box, int what) {
        index(isBox(box) && in(what, 0, 3));
        Box b = boxes.get(box);
        List<Integer> stack = stackOf(box);
        switch (what) {
            case 0:
                return b.port;
            case 1:
                return b.bay;
            case 2:
                return b.ashore ? 3 : b.aside ? 4 : stacks.get(b.bay).get(0) == stack ? 0
                        : stacks.get(b.bay).get(1) == stack ? 1 : 2;
            default:
                return stack == null ? NONE : stack.indexOf(box);
        }
    }

    // ==== B

    private final List<List<Integer>> yard = new ArrayList<>();
    private final int[] grounds;
    private final int[] reserved;
    private final ArrayDeque<int[]> kept = new ArrayDeque<>();
    private int made;

    private int rowOf(int box) {
        for (int r = 0; r < rows; r++) {
            if (yard.get(r).contains(box)) {
                return r;
            }
        }
        return NONE;
    }

    private boolean onTop(int box) {
        int r = rowOf(box);
        return r != NONE && yard.get(r).indexOf(box) == yard.get(r).size() - 1;
    }

    private int rule(Box b, int box, int row, boolean shifted) {
        List<Integer> there = yard.get(row);
        int sum = b.weight;
        boolean otherSize = false;
        for (int o : there) {
            sum += boxes.get(o).weight;
            otherSize |= boxes.get(o).size != b.size;
        }
        if (!b.ashore || b.stay != 0) {
            return 9;
        }
        if (shifted ? there.contains(box) : rowOf(box) != NONE) {
            return 1;
        }
        if (reserved[row] != 0 && reserved[row] != b.ship) {
            return 2;
        }
        if (there.size() == high) {
            return 3;
        }
        if (sum > bears) {
            return 4;
        }
        if (otherSize) {
            return 5;
        }
        if (!there.isEmpty() && boxes.get(there.get(there.size() - 1)).weight < b.weight) {
            return 6;
        }
        if (b.kind == 1 && grounds[row] != 1) {
            return 7;
        }
        return b.kind == 2 && grounds[row] != 2 || b.kind != 2 && grounds[row] == 2 ? 8 : 0;
    }

    private List<Integer> candidates(int box, boolean shifted) {
        List<Integer> all = new ArrayList<>();
        for (int r = 0; r < rows; r++) {
            if (rule(boxes.get(box), box, r, shifted) == 0) {
                all.add(r);
            }
        }
        return all;
    }

    private int sooner(int box, List<Integer> below) {
        int n = 0;
        for (int o : below) {
            n += boxes.get(o).leaves < boxes.get(box).leaves ? 1 : 0;
        }
        return n;
    }

    private int score(int box, int row) {
        List<Integer> there = yard.get(row);
        int score = 20;
        if (!there.isEmpty()) {
            Box top = boxes.get(there.get(there.size() - 1));
            Box b = boxes.get(box);
            score = 40 - 15 * sooner(box, there);
            if (top.ship == b.ship) {
                score += 12;
            }
            int less = 0;
            for (int w = b.weight; w < top.weight && less < 24; w++) {
                less += 3;
            }
            score -= less;
        }
        return reserved[row] == 0 ? score : score + 30;
    }

    private int best(int box, List<Integer> from) {
        int best = NONE;
        for (int r : from) {
            best = best == NONE || score(box, r) > score(box, best) ? r : best;
        }
        return best;
    }

    private int way(int box) {
        int r = rowOf(box);
        return r == NONE ? 0 : sooner(box, yard.get(r).subList(0, yard.get(r).indexOf(box)));
    }

    private void yardMove(int box, int row) {
        kept.addLast(new int[] {box, rowOf(box)});
        if (kept.size() > 100) {
            kept.removeFirst();
        }
        made++;
        stand(box, row);
    }

    private void stand(int box, int row) {
        for (List<Integer> r : yard) {
            r.remove(Integer.valueOf(box));
        }
        if (row != NONE) {
            yard.get(row).add(box);
        }
    }

    public boolean ground(int row, int kind) {
        if (!in(row, 0, rows - 1) || !in(kind, 0, 2) || !yard.get(row).isEmpty()) {
            return false;
        }
        grounds[row] = kind;
        return true;
    }

    public boolean reserve(int row, int ship) {
        if (!in(row, 0, rows - 1) || !in(ship, 0, 9)) {
            return false;
        }
        for (int o : yard.get(row)) {
            if (ship != 0 && boxes.get(o).ship != ship) {
                return false;
            }
        }
        reserved[row] = ship;
        return true;
    }

    public int put(int box, int row) {
        index(isBox(box) && in(row, 0, rows - 1));
        int broken = rule(boxes.get(box), box, row, false);
        if (broken == 0) {
            yardMove(box, row);
        }
        return broken == 0 ? 1 : -broken;
    }

    public int take(int box) {
        index(isBox(box));
        boolean top = onTop(box);
        if (top) {
            yardMove(box, NONE);
        }
        return top ? 1 : 0;
    }

    public int shift(int box, int row) {
        index(isBox(box) && in(row, 0, rows - 1));
        if (!onTop(box)) {
            return 0;
        }
        int broken = rule(boxes.get(box), box, row, true);
        if (broken == 0) {
            yardMove(box, row);
        }
        return broken == 0 ? 1 : -broken;
    }

    public int choose(int box) {
        index(isBox(box));
        return best(box, candidates(box, false));
    }

    public int night(int moves) {
        arg(in(moves, 0, 50));
        for (int n = 0; n < moves; n++) {
            int found = NONE;
            int target = NONE;
            for (List<Integer> r : yard) {
                int box = r.isEmpty() ? NONE : r.get(r.size() - 1);
                if (box == NONE || way(box) == 0 || found != NONE && way(box) <= way(found)) {
                    continue;
                }
                List<Integer> clear = candidates(box, true);
                clear.removeIf(c -> sooner(box, yard.get(c)) > 0);
                if (!clear.isEmpty()) {
                    found = box;
                    target = best(box, clear);
                }
            }
            if (found == NONE) {
                return n;
            }
            yardMove(found, target);
        }
        return moves;
    }

    public int undo() {
        if (kept.isEmpty() || boxes.get(kept.getLast()[0]).stay != 0) {
            return NONE;
        }
        int[] m = kept.removeLast();
        made--;
        stand(m[0], m[1]);
        return m[0];
    }

    public int where(int box, int what) {
        index(isBox(box) && in(what, 0, 8));
        Box b = boxes.get(box);
        int r = rowOf(box);
        int tier = r == NONE ? NONE : yard.get(r).indexOf(box);
        int above = r == NONE ? 0 : yard.get(r).size() - 1 - tier;
        return new int[] {r, tier, above, way(box) > 0 ? 1 : 0, b.size, b.weight, b.leaves, b.ship, b.kind}[what];
    }

    public int at(int row, int tier) {
        index(in(row, 0, rows - 1) && in(tier, 0, high - 1));
        return tier < yard.get(row).size() ? yard.get(row).get(tier) : NONE;
    }

    // ==== C

    private final List<Integer> goodsBox = new ArrayList<>();
    private final List<TreeSet<Integer>> groups = new ArrayList<>();
    private final int[][] rules = new int[4][2];
    private final int[] failures = new int[4];
    private final List<Integer> notices = new ArrayList<>();

    public int goods(int box, int kilograms) {
        arg(isBox(box) && kilograms >= 1 && kilograms <= 1000 * boxes.get(box).weight - boxes.get(box).loaded);
        state(goodsBox.size() < 300);
        boxes.get(box).loaded += kilograms;
        boxes.get(box).goods.add(goodsBox.size());
        goodsBox.add(box);
        return goodsBox.size() - 1;
    }

    public int bar(int source, int box, int kind, int right) {
        arg(in(source, 0, 3) && isBox(box) && in(kind, 0, 9) && in(right, 0, 15));
        int[] bar = boxes.get(box).bars.computeIfAbsent(10 * source + kind, k -> new int[2]);
        bar[0]++;
        bar[1] = right;
        if (bar[0] == 1) {
            notices.add(10 * box);
        }
        return bar[0];
    }

    public int lift(int source, int box, int kind, int rights) {
        arg(in(source, 0, 3) && isBox(box) && in(kind, 0, 9) && in(rights, 0, 65535));
        int[] bar = boxes.get(box).bars.get(10 * source + kind);
        if (bar == null || (rights & 1 << bar[1]) == 0) {
            return NONE;
        }
        bar[0]--;
        if (bar[0] == 0) {
            boxes.get(box).bars.remove(10 * source + kind);
            notices.add(10 * box + 1);
        }
        return bar[0];
    }

    private TreeSet<Integer> groupOf(int box) {
        for (TreeSet<Integer> g : groups) {
            if (g.contains(box)) {
                return g;
            }
        }
        return null;
    }

    public int join(int box, int other) {
        arg(isBox(box) && isBox(other) && box != other);
        TreeSet<Integer> g = groupOf(box);
        TreeSet<Integer> h = groupOf(other);
        if (g == h) {
            return 0;
        }
        groups.removeIf(k -> k == h);
        g.addAll(h);
        return 1;
    }

    public boolean rule(int source, int does, int limit) {
        if (!in(source, 0, 3) || !in(does, 0, 4) || does == 1 && !in(limit, 0, 40000)) {
            return false;
        }
        rules[source] = new int[] {does, limit};
        return true;
    }

    private List<Integer> allBars(int box, boolean counted) {
        List<Integer> all = new ArrayList<>();
        for (int b : groupOf(box)) {
            Box o = boxes.get(b);
            if (o.goods.isEmpty()) {
                all.add(10);
            } else if (!o.goods.stream().allMatch(this::isFree)) {
                all.add(11);
            }
            for (int s = 0; s < 4; s++) {
                for (int kind = 0; kind < 10; kind++) {
                    if (o.bars.containsKey(10 * s + kind)) {
                        all.add(100 + 100 * s + kind);
                    }
                }
                int does = rules[s][0];
                if (does == 1 && 1000 * o.weight > rules[s][1] || does == 2 && b % 2 != 0) {
                    all.add(113 + 100 * s);
                }
                if (does == 3 && !o.goods.isEmpty() || does == 4) {
                    all.add(114 + 100 * s);
                    failures[s] += counted ? 1 : 0;
                }
            }
        }
        return all;
    }

    public int release(int box) {
        arg(isBox(box));
        return allBars(box, true).isEmpty() ? 1 : 0;
    }

    public int bars(int box, int i) {
        arg(isBox(box));
        List<Integer> all = allBars(box, false);
        return in(i, 0, all.size() - 1) ? all.get(i) : NONE;
    }

    public int part(int box, int kilograms) {
        arg(isBox(box) && kilograms >= 1);
        Box b = boxes.get(box);
        if (release(box) == 0 || b.stay != 0 || (long) b.released + kilograms > 1000L * b.weight) {
            return NONE;
        }
        b.released += kilograms;
        notices.add(10 * box + 2);
        return b.released;
    }

    public int withdraw(int box) {
        arg(isBox(box));
        Box b = boxes.get(box);
        if (b.stay == 1) {
            notices.add(10 * box + 5);
            return 0;
        }
        if (b.released == 0) {
            return 2;
        }
        b.released = 0;
        notices.add(10 * box + 4);
        return 1;
    }

    public int gate(int box) {
        arg(isBox(box));
        Box b = boxes.get(box);
        boolean stands = b.stay != 0 || !b.ashore || rowOf(box) != NONE;
        if (stands || release(box) == 0 || b.released < 1000 * b.weight) {
            return 0;
        }
        b.stay = 1;
        notices.add(10 * box + 3);
        return 1;
    }

    public boolean away(int box, int rights, boolean goes) {
        if (!isBox(box) || (rights & 32768) == 0) {
            return false;
        }
        Box b = boxes.get(box);
        if (goes ? b.stay != 0 || !b.ashore || rowOf(box) != NONE : b.stay != 2) {
            return false;
        }
        b.stay = goes ? 2 : 0;
        return true;
    }

    public int notice(int i) {
        List<Integer> latest = notices.subList(Math.max(0, notices.size() - 64), notices.size());
        return in(i, 0, latest.size() - 1) ? latest.get(i) : NONE;
    }

    public int look(int box, int what) {
        index(isBox(box) && in(what, 0, 5));
        Box b = boxes.get(box);
        return new int[] {b.stay, b.released, b.bars.size(), b.goods.size(), groupOf(box).first(),
            groupOf(box).size()}[what];
    }

    // ==== D

    private static final class Row {
        int code, land, from, kind, rank, known;
        final Set<Integer> excluded = new HashSet<>();
        final Set<Integer> wanted = new HashSet<>();
        final List<int[]> ends = new ArrayList<>();
        Text rate;

        int last(int asOf) {
            int[] found = null;
            for (int[] e : ends) {
                found = e[1] <= asOf && (found == null || e[1] >= found[1]) ? e : found;
            }
            return found == null ? NONE : found[0];
        }
    }

    private final List<Row> measures = new ArrayList<>();
    private final Map<Integer, Set<Integer>> members = new HashMap<>();
    private int present;
    private List<Integer> list = new ArrayList<>();

    private boolean isIn(int what, int group) {
        for (int m : members.getOrDefault(group, Set.of())) {
            if (m == what || isIn(what, m)) {
                return true;
            }
        }
        return false;
    }

    private static boolean isCode(int code) {
        String s = String.valueOf(code);
        return code > 0 && (s.length() == 2 || s.length() == 4 || s.length() == 6);
    }

    private static boolean isFull(int code) {
        return isCode(code) && code > 99999;
    }

    public boolean member(int group, int land) {
        if (!in(group, 16, 23) || !in(land, 0, 23) || group == land || isIn(group, land)) {
            return false;
        }
        return members.computeIfAbsent(group, g -> new LinkedHashSet<>()).add(land);
    }

    public int row(int code, int land, int from, int to, int kind, int rank, int known) {
        arg(isCode(code) && (in(land, 0, 23) || land == 31) && in(from, 0, 10000) && (in(to, 0, 10000) || to == OPEN)
                && in(kind, 0, 7) && in(rank, 0, 9) && in(known, 0, 10000) && from <= to);
        state(measures.size() < 300);
        for (int i = 0; i < measures.size(); i++) {
            Row r = measures.get(i);
            boolean same = r.code == code && r.land == land && r.kind == kind && r.rank == rank;
            if (same && Math.max(from, r.from) <= Math.min(to, r.last(OPEN))) {
                return -1 - (i + 1);
            }
        }
        Row r = new Row();
        r.code = code;
        r.land = land;
        r.from = from;
        r.kind = kind;
        r.rank = rank;
        r.known = known;
        r.ends.add(new int[] {to, known});
        measures.add(r);
        return measures.size();
    }

    private boolean isRow(int row) {
        return in(row, 1, measures.size());
    }

    public boolean exclude(int row, int land) {
        return isRow(row) && in(land, 0, 15) && measures.get(row - 1).excluded.size() < 4
                && measures.get(row - 1).excluded.add(land);
    }

    public boolean condition(int row, int paper) {
        return isRow(row) && in(paper, 0, 15) && measures.get(row - 1).wanted.size() < 4
                && measures.get(row - 1).wanted.add(paper);
    }

    public int end(int row, int day, int known) {
        index(isRow(row));
        arg((in(day, 0, 10000) || day == OPEN) && in(known, 0, 10000));
        Row r = measures.get(row - 1);
        state(r.ends.size() < 8);
        if (day < r.from) {
            return 0;
        }
        r.ends.add(new int[] {day, known});
        return r.ends.size();
    }

    public void papers(int bits) {
        present = bits;
    }

    private boolean applies(Row r, int code, int land, int day, int known) {
        boolean papers = r.wanted.isEmpty();
        for (int p : r.wanted) {
            papers |= (present & 1 << p) != 0;
        }
        return papers && r.known <= known && String.valueOf(code).startsWith(String.valueOf(r.code))
                && (r.land == land || r.land == 31 || isIn(land, r.land)) && !r.excluded.contains(land)
                && in(day, r.from, r.last(known));
    }

    private static boolean beats(Row a, Row b) {
        int longer = String.valueOf(a.code).length() - String.valueOf(b.code).length();
        return a.kind == b.kind && (longer > 0 || longer == 0 && a.rank > b.rank);
    }

    private List<Integer> found(int code, int land, int day, int known) {
        List<Integer> all = new ArrayList<>();
        for (int kind = 0; kind < 8; kind++) {
            for (int i = 0; i < measures.size(); i++) {
                Row r = measures.get(i);
                boolean ok = r.kind == kind && applies(r, code, land, day, known);
                for (Row o : measures) {
                    ok &= kind > 3 || !applies(o, code, land, day, known) || !beats(o, r);
                }
                if (ok) {
                    all.add(i + 1);
                }
            }
        }
        return all;
    }

    public int apply(int code, int land, int day, int known) {
        arg(isFull(code) && in(land, 0, 15) && in(day, 0, 10000) && in(known, 0, 10000));
        list = found(code, land, day, known);
        return list.size();
    }

    public int listed(int i) {
        return in(i, 0, list.size() - 1) ? list.get(i) : NONE;
    }

    // ==== E

    private String tape = "";
    private String printed = "";

    public boolean type(long word, int n) {
        if (!in(n, 1, 8) || tape.length() + n > 400) {
            return false;
        }
        StringBuilder s = new StringBuilder();
        for (int i = n - 1; i >= 0; i--) {
            int sign = (int) (word >>> 8 * i) & 0xFF;
            if (!in(sign, 32, 126)) {
                return false;
            }
            s.append((char) sign);
        }
        tape += s;
        return true;
    }

    public int rate(int row) {
        String text = tape;
        tape = "";
        arg(isRow(row));
        Text t = new Text(text);
        if (t.bad != NONE) {
            return -1 - t.bad;
        }
        measures.get(row - 1).rate = t;
        return t.ordered.size();
    }

    private Text rateOf(int row) {
        return isRow(row) ? measures.get(row - 1).rate : null;
    }

    public int node(int row, int i, int what) {
        Text t = rateOf(row);
        index(t != null && in(i, 0, t.ordered.size() - 1) && in(what, 0, 5));
        Text.Node n = t.ordered.get(i);
        return new int[] {n.kind, n.number, n.unit, t.ordered.indexOf(n.left), t.ordered.indexOf(n.right),
            n.steps.size()}[what];
    }

    public int print(int row) {
        Text t = rateOf(row);
        arg(t != null);
        printed = t.print(t.ordered.get(0));
        return printed.length();
    }

    public int printed(int i) {
        index(in(i, 0, printed.length() - 1));
        return printed.charAt(i);
    }

    private static BigDecimal value(Text t, BigDecimal price, Map<Integer, BigDecimal> amounts) {
        return t.value(t.ordered.get(0), price, amounts).max(BigDecimal.ZERO);
    }

    public long worth(int row, long price, int unit, long amount) {
        Text t = rateOf(row);
        arg(t != null && in(price, 0, 100000000L) && in(unit, 0, 7) && in(amount, 0, 100000000L));
        can(Set.of(unit).containsAll(t.units()));
        return value(t, BigDecimal.valueOf(price), Map.of(unit, BigDecimal.valueOf(amount))).longValueExact();
    }

    // ==== F

    private static final class Order {
        long volume;
        int from, to, run;
        final Set<Integer> blocked = new HashSet<>();
    }

    private static final class Ask {
        int order, desk, day;
        long amount;
    }

    private final List<Order> orders = new ArrayList<>();
    private final List<Ask> asks = new ArrayList<>();

    private static final class Course {
        final Map<Integer, Long> balances = new HashMap<>();
        final Map<Ask, Long> has = new HashMap<>();
        final Map<Ask, Integer> treated = new HashMap<>();
    }

    private Course course(int order) {
        Course c = new Course();
        Order o = orders.get(order);
        long balance = o.volume;
        for (int day = o.from; day <= o.run; day++) {
            List<Ask> due = new ArrayList<>();
            for (Ask a : asks) {
                boolean waits = a.order == order && a.day <= day && !c.treated.containsKey(a);
                if (waits && day <= o.to && !o.blocked.contains(day)) {
                    due.add(a);
                }
            }
            balance -= treat(c, due, balance, day);
            c.balances.put(day, balance);
        }
        return c;
    }

    private static long treat(Course c, List<Ask> due, long balance, int day) {
        BigInteger all = BigInteger.ZERO;
        for (Ask a : due) {
            all = all.add(BigInteger.valueOf(a.amount));
        }
        BigInteger there = BigInteger.valueOf(balance);
        long given = 0;
        for (Ask a : due) {
            BigInteger wanted = BigInteger.valueOf(a.amount);
            BigInteger gets = all.compareTo(there) <= 0 ? wanted : wanted.multiply(there).divide(all);
            c.has.put(a, gets.longValueExact());
            c.treated.put(a, day);
            given += gets.longValueExact();
        }
        due.sort((a, b) -> a.desk - b.desk);
        while (all.compareTo(there) > 0 && given < balance) {
            for (Ask a : due) {
                if (given < balance && c.has.get(a) < a.amount) {
                    c.has.merge(a, 1L, Long::sum);
                    given++;
                }
            }
        }
        return given;
    }

    private boolean isOrder(int order) {
        return in(order, 0, orders.size() - 1);
    }

    public int order(long volume, int from, int to) {
        arg(in(volume, 1, 1000000000L) && in(from, 0, 400) && in(to, 0, 400) && from <= to);
        state(orders.size() < 16);
        Order o = new Order();
        o.volume = volume;
        o.from = from;
        o.to = to;
        o.run = from - 1;
        orders.add(o);
        return orders.size() - 1;
    }

    public int run(int order, int day) {
        index(isOrder(order));
        Order o = orders.get(order);
        arg(in(day, 0, 400) && day > o.run);
        int was = o.run;
        o.run = day;
        Course c = course(order);
        int n = 0;
        for (Ask a : c.treated.keySet()) {
            n += c.treated.get(a) > was && c.has.get(a) > 0 ? 1 : 0;
        }
        return n;
    }

    public boolean block(int order, int day, boolean on) {
        index(isOrder(order));
        Order o = orders.get(order);
        return in(day, o.from, o.to) && (on ? o.blocked.add(day) : o.blocked.remove(day));
    }

    public boolean transfer(int order, int to, long volume) {
        index(isOrder(order) && isOrder(to));
        Order o = orders.get(order);
        Order p = orders.get(to);
        if (order == to || o.run >= o.from || p.run >= p.from || volume < 1 || volume >= o.volume
                || p.volume + volume > 1000000000L) {
            return false;
        }
        o.volume -= volume;
        p.volume += volume;
        return true;
    }

    public long balance(int order, int day) {
        index(isOrder(order));
        arg(day >= orders.get(order).from && day <= orders.get(order).run);
        return course(order).balances.get(day);
    }

    public long quota(int order, int what) {
        index(isOrder(order) && in(what, 0, 4));
        Order o = orders.get(order);
        Course c = course(order);
        long waiting = asks.stream().filter(a -> a.order == order && !c.treated.containsKey(a)).count();
        long balance = c.balances.getOrDefault(o.run, o.volume);
        return new long[] {o.volume, o.run, o.blocked.size(), waiting, 10 * balance < o.volume ? 1 : 0}[what];
    }

    // ==== G

    private static final class Guarantee {
        int holder, up, down, rate, begun, closedOn = NONE;
        long first, claimed;
        boolean single;
        final TreeMap<Integer, Long> amounts = new TreeMap<>();

        long amount() {
            return first - claimed;
        }

        long needs(long cents) {
            return BigDecimal.valueOf(cents * up).divide(BigDecimal.valueOf(down), 0, RoundingMode.CEILING).longValue();
        }
    }

    private static final class Reservation {
        int holder, ended;
        final List<long[]> parts = new ArrayList<>();
    }

    private final List<Guarantee> guarantees = new ArrayList<>();
    private final List<List<Integer>> turns = List.of(new ArrayList<>(), new ArrayList<>(), new ArrayList<>(),
            new ArrayList<>(), new ArrayList<>(), new ArrayList<>(), new ArrayList<>(), new ArrayList<>());
    private final List<Reservation> reservations = new ArrayList<>();
    private final boolean[] deskFails = new boolean[4];
    private final int[] deskFailures = new int[4];
    private int today;

    private boolean isGuarantee(int g) {
        return in(g, 1, guarantees.size());
    }

    public int guarantee(int holder, long amount, int up, int down, boolean single, int rate) {
        arg(in(holder, 0, 7) && in(amount, 1, 1000000000L) && in(up, 0, 100) && in(down, 1, 100) && up <= down
                && in(rate, 0, 1000));
        state(guarantees.size() < 40);
        Guarantee g = new Guarantee();
        g.holder = holder;
        g.first = amount;
        g.up = up;
        g.down = down;
        g.single = single;
        g.rate = rate;
        g.begun = today;
        g.amounts.put(today, amount);
        guarantees.add(g);
        turns.get(holder).add(guarantees.size());
        return guarantees.size();
    }

    public boolean first(int guarantee) {
        if (!isGuarantee(guarantee)) {
            return false;
        }
        List<Integer> turn = turns.get(guarantees.get(guarantee - 1).holder);
        if (turn.indexOf(guarantee) == 0) {
            return false;
        }
        turn.remove(Integer.valueOf(guarantee));
        turn.add(0, guarantee);
        return true;
    }

    public boolean shut(int guarantee) {
        if (!isGuarantee(guarantee) || guarantees.get(guarantee - 1).closedOn != NONE) {
            return false;
        }
        guarantees.get(guarantee - 1).closedOn = today;
        return true;
    }

    public boolean fails(int desk, boolean on) {
        if (!in(desk, 0, 3) || deskFails[desk] == on) {
            return false;
        }
        deskFails[desk] = on;
        return true;
    }

    public boolean tick(int day) {
        if (day < today || day > 100000) {
            return false;
        }
        today = day;
        return true;
    }

    // The amount of a day is that of the latest change on an earlier day (or of the beginning).
    public long interest(int guarantee) {
        arg(isGuarantee(guarantee));
        Guarantee g = guarantees.get(guarantee - 1);
        int last = g.closedOn == NONE ? today : g.closedOn;
        long sum = 0;
        List<Integer> changes = new ArrayList<>(g.amounts.keySet());
        for (int i = 0; i < changes.size(); i++) {
            int from = changes.get(i);
            int to = Math.min(last, i + 1 < changes.size() ? changes.get(i + 1) : last);
            if (to > from) {
                sum += BigInteger.valueOf(g.amounts.get(from)).multiply(BigInteger.valueOf(g.rate))
                        .multiply(BigInteger.valueOf(to - from)).divide(BigInteger.valueOf(3650000)).longValueExact();
            }
        }
        return sum;
    }

    private long needed(int guarantee) {
        long sum = 0;
        for (Reservation r : reservations) {
            for (long[] p : r.parts) {
                sum += p[0] == guarantee ? guarantees.get(guarantee - 1).needs(p[1]) : 0;
            }
        }
        return sum;
    }

    private int uses(int guarantee) {
        int n = 0;
        for (Reservation r : reservations) {
            n += r.parts.stream().anyMatch(p -> p[0] == guarantee) ? 1 : 0;
        }
        return n;
    }

    private long freeOf(int guarantee) {
        return Math.max(0, guarantees.get(guarantee - 1).amount() - needed(guarantee));
    }

    // The most by halving: what is needed grows with what is covered.
    private long mayCover(int guarantee) {
        Guarantee g = guarantees.get(guarantee - 1);
        if (g.closedOn != NONE || g.single && uses(guarantee) > 0) {
            return 0;
        }
        long free = freeOf(guarantee);
        long lo = 0;
        long hi = g.up == 0 ? 1000000000L : 200000000000L;
        while (lo < hi) {
            long mid = (lo + hi + 1) / 2;
            if (g.needs(mid) <= free) {
                lo = mid;
            } else {
                hi = mid - 1;
            }
        }
        return lo;
    }

    public long free(int holder) {
        if (!in(holder, 0, 7)) {
            return NONE;
        }
        long sum = 0;
        for (int g : turns.get(holder)) {
            sum += mayCover(g);
        }
        return Math.min(2000000000L, sum);
    }

    public int list(int holder, int i) {
        return in(holder, 0, 7) && in(i, 0, turns.get(holder).size() - 1) ? turns.get(holder).get(i) : NONE;
    }

    public long security(int guarantee, int what) {
        index(isGuarantee(guarantee) && in(what, 0, 8));
        Guarantee g = guarantees.get(guarantee - 1);
        return new long[] {g.holder, g.amount(), needed(guarantee), freeOf(guarantee), mayCover(guarantee),
            uses(guarantee), g.closedOn == NONE ? 0 : 1, Math.max(0, needed(guarantee) - g.amount()), g.claimed}[what];
    }

    public long reservation(int reservation, int what) {
        index(in(reservation, 1, reservations.size()) && in(what, 0, 11));
        Reservation r = reservations.get(reservation - 1);
        index(what < 4 || what % 4 < r.parts.size());
        long covers = r.parts.stream().mapToLong(p -> p[1]).sum();
        long[] first = {r.holder, covers, r.ended, r.parts.size()};
        return what < 4 ? first[what] : r.parts.get(what % 4)[what / 4 - 1];
    }

    // NONE if it can't be covered, 0 if the desk failed.
    private int covered(int holder, int desk, long cents) {
        Reservation r = new Reservation();
        r.holder = holder;
        long left = cents;
        for (int g : turns.get(holder)) {
            long some = Math.min(left, mayCover(g));
            if (some > 0) {
                r.parts.add(new long[] {g, some});
                left -= some;
            }
        }
        if (left > 0 || r.parts.size() > 4) {
            return NONE;
        }
        if (deskFails[desk]) {
            deskFails[desk] = false;
            deskFailures[desk]++;
            return 0;
        }
        reservations.add(r);
        return reservations.size();
    }

    private long ended(int reservation, int how) {
        Reservation r = reservations.get(reservation - 1);
        long less = 0;
        for (long[] p : r.parts) {
            Guarantee g = guarantees.get((int) p[0] - 1);
            long some = how == 3 ? Math.min(g.amount(), p[1]) : 0;
            g.claimed += some;
            if (some > 0) {
                g.amounts.put(today, g.amount());
            }
            less += some;
        }
        r.parts.clear();
        r.ended = how;
        return less;
    }

    private static final class Batch {
        int valid, known, state, reverses = NONE, reversedBy = NONE;
        boolean failing;
        final List<long[]> entries = new ArrayList<>();
    }

    private final List<Batch> batches = new ArrayList<>();
    private final List<long[]> book = new ArrayList<>();
    private int closed = NONE, latest = NONE, wrong, named = NONE, failed;
    private final int[][] parts = new int[4][4];
    private final int[] costs = new int[4];

    private boolean isOpen(int batch) {
        return in(batch, 0, batches.size() - 1) && batches.get(batch).state == 0;
    }

    public int batch(int valid, int known) {
        arg(in(valid, 0, 100000) && in(known, 0, 100000));
        state(batches.size() < 800);
        Batch b = new Batch();
        b.valid = valid;
        b.known = known;
        batches.add(b);
        return batches.size() - 1;
    }

    public boolean entry(int batch, int account, long cents) {
        if (!isOpen(batch) || !in(account, 0, 11) || cents == 0 || cents > 1000000000L || cents < -1000000000L
                || batches.get(batch).entries.size() == 20) {
            return false;
        }
        batches.get(batch).entries.add(new long[] {account, cents});
        return true;
    }

    public boolean failing(int batch, boolean is) {
        if (!isOpen(batch)) {
            return false;
        }
        batches.get(batch).failing = is;
        return true;
    }

    private int wrongWith(Batch b) {
        long sum = b.entries.stream().mapToLong(e -> e[1]).sum();
        return b.entries.isEmpty() ? 1 : sum != 0 ? 2 : b.known <= closed ? 3 : b.known < latest ? 4
                : book.size() + b.entries.size() > 4000 ? 5 : 0;
    }

    private int greatest(Batch b) {
        int found = 0;
        long most = -1;
        for (int a = 0; a < 12; a++) {
            int account = a;
            long sum = Math.abs(b.entries.stream().filter(e -> e[0] == account).mapToLong(e -> e[1]).sum());
            if (sum > most) {
                most = sum;
                found = a;
            }
        }
        return found;
    }

    public int post(int batch) {
        arg(isOpen(batch));
        Batch b = batches.get(batch);
        int found = wrongWith(b);
        if (found != 0) {
            wrong = found;
            named = found == 2 ? greatest(b) : NONE;
            b.state = 2;
            b.entries.clear();
            throw new IllegalStateException();
        }
        if (b.failing) {
            b.failing = false;
            failed++;
            throw new UnsupportedOperationException();
        }
        booked(b, batch);
        return 1;
    }

    private void booked(Batch b, int number) {
        for (long[] e : b.entries) {
            book.add(new long[] {number, e[0], e[1], b.valid, b.known});
        }
        b.state = 1;
        latest = b.known;
    }

    // A batch that is posted at once, or none.
    private int postNow(int valid, int known, List<long[]> entries) {
        Batch b = new Batch();
        b.valid = valid;
        b.known = known;
        b.entries.addAll(entries);
        state(batches.size() < 800 && wrongWith(b) == 0);
        batches.add(b);
        booked(b, batches.size() - 1);
        return batches.size() - 1;
    }

    public int reverse(int batch, int known) {
        arg(in(batch, 0, batches.size() - 1) && batches.get(batch).state == 1 && in(known, 0, 100000));
        Batch b = batches.get(batch);
        state(b.reverses == NONE && b.reversedBy == NONE);
        List<long[]> turned = new ArrayList<>();
        b.entries.forEach(e -> turned.add(new long[] {e[0], -e[1]}));
        int number = postNow(b.valid, known, turned);
        batches.get(number).reverses = batch;
        b.reversedBy = number;
        return number;
    }

    public boolean close(int day) {
        if (!in(day, 0, 100000) || day <= closed) {
            return false;
        }
        closed = day;
        return true;
    }

    private long sum(int account, int first, int last, int known) {
        return book.stream().filter(e -> e[1] == account && in(e[3], first, last) && e[4] <= known)
                .mapToLong(e -> e[2]).sum();
    }

    public long account(int account, int day, int known) {
        arg(in(account, 0, 11) && in(day, 0, 100000) && in(known, 0, 100000));
        return sum(account, 0, day, known);
    }

    public long statement(int account, int month, int known) {
        arg(in(account, 0, 11) && in(month, 0, 3333) && in(known, 0, 100000));
        return sum(account, 30 * month, 30 * month + 29, known);
    }

    public boolean share(int kind, int receiver, int part) {
        if (!in(kind, 0, 3) || !in(receiver, 0, 3) || !in(part, 0, 1000)) {
            return false;
        }
        parts[kind][receiver] = part;
        return true;
    }

    public boolean cost(int kind, int thousandths) {
        if (!in(kind, 0, 3) || !in(thousandths, 0, 1000)) {
            return false;
        }
        costs[kind] = thousandths;
        return true;
    }

    public long passed(int kind, int what, int known) {
        arg(in(kind, 0, 3) && in(what, 0, 6) && in(known, 0, 100000));
        int[][] accounts = {{0, 1, 2, 3, 4, 5, 6, 7}, {8}, {9}, {10, 11}};
        long all = 0;
        for (int a : accounts[kind]) {
            all += sum(a, 0, 100000, known);
        }
        all = Math.max(0, all);
        long spent = all * costs[kind] / 1000;
        long total = Arrays.stream(parts[kind]).sum();
        long[] gets = new long[4];
        List<Integer> byRemainder = new ArrayList<>(List.of(0, 1, 2, 3));
        long pot = all - spent;
        if (total > 0) {
            byRemainder.sort((a, b) -> Long.compare(pot * parts[kind][b] % total, pot * parts[kind][a] % total));
            long left = pot;
            for (int i = 0; i < 4; i++) {
                gets[i] = pot * parts[kind][i] / total;
                left -= gets[i];
            }
            for (int i = 0; i < left; i++) {
                gets[byRemainder.get(i)]++;
            }
        }
        long kept = all - Arrays.stream(gets).sum();
        return what < 4 ? gets[what] : what == 4 ? spent : what == 5 ? kept : all;
    }

    public long read(int i, int what) {
        index(in(i, 0, book.size() - 1) && in(what, 0, 4));
        return book.get(i)[what];
    }

    public int batchOf(int batch, int what) {
        index(in(batch, 0, batches.size() - 1) && in(what, 0, 6));
        Batch b = batches.get(batch);
        int fails = b.failing ? 1 : 0;
        return new int[] {b.state, b.entries.size(), b.reverses, b.reversedBy, fails, b.valid, b.known}[what];
    }

    // ==== H

    private static final class Declaration {
        int goods, holder, desk, code, land, day, state, reservation, batch = NONE;
        long price, duty;
        Ask ask;
        final TreeMap<Integer, Long> amounts = new TreeMap<>();
    }

    private final List<Declaration> declarations = new ArrayList<>();

    private boolean isFree(int goods) {
        return declarations.stream().anyMatch(d -> d.goods == goods && in(d.state, 1, 3));
    }

    private Declaration having(int declaration, int... states) {
        if (!in(declaration, 0, declarations.size() - 1)) {
            return null;
        }
        Declaration d = declarations.get(declaration);
        return Arrays.stream(states).anyMatch(s -> s == d.state) ? d : null;
    }

    public int declare(int goods, int holder, int desk, int code, int land, int day, long price) {
        arg(in(goods, 0, goodsBox.size() - 1) && in(holder, 0, 7) && in(desk, 0, 3) && isFull(code) && in(land, 0, 15)
                && in(day, 0, 10000) && in(price, 0, 100000000L));
        state(declarations.size() < 400 && declarations.stream().noneMatch(d -> d.goods == goods && d.state != 4));
        Declaration d = new Declaration();
        d.goods = goods;
        d.holder = holder;
        d.desk = desk;
        d.code = code;
        d.land = land;
        d.day = day;
        d.price = price;
        declarations.add(d);
        return declarations.size() - 1;
    }

    public boolean amount(int declaration, int unit, long thousandths) {
        Declaration d = having(declaration, 0);
        if (d == null || !in(unit, 0, 7) || !in(thousandths, -1, 100000000L)) {
            return false;
        }
        if (thousandths == NONE) {
            d.amounts.remove(unit);
        } else {
            d.amounts.put(unit, thousandths);
        }
        return true;
    }

    public int ask(int declaration, int order, long amount) {
        Declaration d = having(declaration, 0);
        arg(d != null && in(amount, 1, 1000000));
        index(isOrder(order));
        state(d.ask == null);
        if (!in(d.day, orders.get(order).from, orders.get(order).to)) {
            return 0;
        }
        d.ask = new Ask();
        d.ask.order = order;
        d.ask.desk = d.desk;
        d.ask.day = d.day;
        d.ask.amount = amount;
        asks.add(d.ask);
        return 1;
    }

    public int again(int declaration, long amount) {
        Declaration d = having(declaration, 0, 1, 2, 3);
        arg(d != null && d.ask != null && in(amount, 1, 1000000));
        Course was = course(d.ask.order);
        d.ask.amount = amount;
        Course is = course(d.ask.order);
        int n = 0;
        for (Ask a : asks) {
            n += a.order == d.ask.order && !was.has.getOrDefault(a, 0L).equals(is.has.getOrDefault(a, 0L)) ? 1 : 0;
        }
        return n;
    }

    private static BigDecimal partOf(long whole, long has, long amount) {
        BigDecimal all = BigDecimal.valueOf(whole).multiply(BigDecimal.valueOf(has));
        return all.divideToIntegralValue(BigDecimal.valueOf(amount));
    }

    private long reckoned(Declaration d, int known) {
        long sum = 0;
        long amount = d.ask == null ? 0 : d.ask.amount;
        long has = d.ask == null ? 0 : course(d.ask.order).has.getOrDefault(d.ask, 0L);
        for (int row : found(d.code, d.land, d.day, known)) {
            Row r = measures.get(row - 1);
            boolean counts = r.kind > 1 || r.kind == 1 && has > 0 || r.kind == 0 && (d.ask == null || has < amount);
            if (r.rate == null || !counts) {
                continue;
            }
            can(d.amounts.keySet().containsAll(r.rate.units()));
            BigDecimal price = BigDecimal.valueOf(d.price);
            Map<Integer, BigDecimal> amounts = new HashMap<>();
            d.amounts.forEach((u, a) -> amounts.put(u, BigDecimal.valueOf(a)));
            if (r.kind < 2 && d.ask != null) {
                BigDecimal part = partOf(d.price, has, amount);
                price = r.kind == 1 ? part : price.subtract(part);
                d.amounts.forEach((u, a) -> amounts.put(u, r.kind == 1 ? partOf(a, has, amount)
                        : BigDecimal.valueOf(a).subtract(partOf(a, has, amount))));
            }
            sum += value(r.rate, price, amounts).movePointLeft(6).setScale(0, RoundingMode.HALF_UP).longValueExact();
        }
        can(sum <= 1000000000L);
        return sum;
    }

    public long duty(int declaration, int known) {
        Declaration d = having(declaration, 0, 1, 2, 3, 4);
        arg(d != null && in(known, 0, 10000));
        return reckoned(d, known);
    }

    public long assess(int declaration, int known) {
        Declaration d = having(declaration, 0);
        arg(d != null && in(known, 0, 10000));
        long duty = reckoned(d, known);
        int got = duty == 0 ? 0 : covered(d.holder, d.desk, duty);
        if (duty > 0 && got <= 0) {
            return got == 0 ? NONE : -2 - free(d.holder);
        }
        d.reservation = got;
        d.duty = duty;
        d.state = 1;
        return duty;
    }

    public int pay(int declaration, int known) {
        Declaration d = having(declaration, 1);
        arg(d != null && in(known, 0, 100000));
        if (d.duty > 0) {
            d.batch = postNow(d.day, known, List.of(new long[] {d.holder, -d.duty}, new long[] {8, d.duty}));
            ended(d.reservation, 2);
        }
        d.state = 2;
        return d.duty > 0 ? d.batch : NONE;
    }

    public long claim(int declaration, int known) {
        Declaration d = having(declaration, 1);
        arg(d != null && d.duty > 0 && in(known, 0, 100000));
        long less = 0;
        for (long[] p : reservations.get(d.reservation - 1).parts) {
            less += Math.min(p[1], guarantees.get((int) p[0] - 1).amount());
        }
        List<long[]> entries = new ArrayList<>(List.of(new long[] {9, -less}, new long[] {d.holder, less - d.duty},
                new long[] {8, d.duty}));
        entries.removeIf(e -> e[1] == 0);
        d.batch = postNow(d.day, known, entries);
        d.state = 3;
        return ended(d.reservation, 3);
    }

    public long correct(int declaration, int known) {
        Declaration d = having(declaration, 2, 3);
        arg(d != null && in(known, 0, 10000));
        long more = reckoned(d, known) - d.duty;
        if (more != 0) {
            d.batch = postNow(d.day, known, List.of(new long[] {d.holder, -more}, new long[] {8, more}));
        }
        d.duty += more;
        return more;
    }

    public int cancel(int declaration) {
        Declaration d = having(declaration, 0, 1, 2, 3, 4);
        arg(d != null);
        if (d.state > 1 || boxes.get(goodsBox.get(d.goods)).stay == 1) {
            return 0;
        }
        if (d.reservation > 0) {
            ended(d.reservation, 1);
        }
        if (d.ask != null) {
            d.ask.amount = 0;
        }
        d.state = 4;
        return 1;
    }

    public long declared(int declaration, int what) {
        Declaration d = having(declaration, 0, 1, 2, 3, 4);
        index(d != null && in(what, 0, 22));
        if (what >= 15) {
            return d.amounts.getOrDefault(what - 15, -1L);
        }
        Course c = d.ask == null ? null : course(d.ask.order);
        long order = c == null ? NONE : d.ask.order;
        long asked = c == null ? 0 : d.ask.amount;
        long has = c == null ? 0 : c.has.getOrDefault(d.ask, 0L);
        long treated = c == null ? NONE : c.treated.getOrDefault(d.ask, NONE);
        return new long[] {d.goods, d.holder, d.desk, d.code, d.land, d.day, d.price, d.state, d.duty, d.reservation,
            d.batch, order, asked, has, treated}[what];
    }

    public int count(int what) {
        long live = reservations.stream().filter(r -> r.ended == 0).count();
        int[] first = {boxes.size(), (int) boxes.stream().filter(b -> b.ashore).count(),
            (int) boxes.stream().filter(b -> b.aside).count(), worked, yard.stream().mapToInt(List::size).sum(), made,
            kept.size(), waysInAll(), goodsBox.size(), notices.size(),
            (int) boxes.stream().filter(b -> b.stay == 1).count(), failures[0], failures[1], failures[2], failures[3],
            measures.size(), list.size(), tape.length(), printed.length(), orders.size(), guarantees.size(),
            reservations.size(), (int) live, today, deskFailures[0], deskFailures[1], deskFailures[2], deskFailures[3],
            batches.size(), book.size(), closed, latest, wrong, named, failed, declarations.size()};
        if (in(what, 0, first.length - 1)) {
            return first[what];
        }
        if (in(what, 36, 40)) {
            return (int) declarations.stream().filter(d -> d.state == what - 36).count();
        }
        if (in(what, 100, 99 + bays)) {
            return left(what - 100);
        }
        if (in(what, 616, 623)) {
            int n = 0;
            for (int land = 0; land < 16; land++) {
                n += isIn(land, what - 600) ? 1 : 0;
            }
            return n;
        }
        int r = what % 100;
        if (!in(what, 200, 599) || r >= rows) {
            return NONE;
        }
        int weight = yard.get(r).stream().mapToInt(b -> boxes.get(b).weight).sum();
        return new int[] {yard.get(r).size(), weight, grounds[r], reserved[r]}[what / 100 - 2];
    }

    private int waysInAll() {
        int n = 0;
        for (int b = 0; b < boxes.size(); b++) {
            n += way(b) > 0 ? 1 : 0;
        }
        return n;
    }
}
