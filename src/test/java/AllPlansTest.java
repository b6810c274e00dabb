import java.util.ArrayList;
import java.util.List;

/**
 * Promises 4, 5 and 7 for every bay that can be: all ways to lie in three stacks, all that leave HERE or later, all
 * needs. Each plan is compared with the model's, which is found by another kind of search. With four boxes in a bay at
 * most there always is a plan, and none goes ASIDE: what the document says of NONE and of ASIDE is never met.
 */
public final class AllPlansTest {
    private static final int MOST_IN_BAY = 4;
    private static final int ASIDE = 4;

    private final int tiers;
    private final int[] heights;
    private final int later;
    private final List<int[]> pairs = new ArrayList<>();
    private static int plans;
    private static int longest;

    private AllPlansTest(int tiers, int[] heights, int later) {
        this.tiers = tiers;
        this.heights = heights;
        this.later = later;
        int boxes = heights[0] + heights[1] + heights[2];
        for (int i = 0; i < boxes; i++) {
            for (int j = 0; j < boxes; j++) {
                if (i != j && (later >> i & 1) == 0 && (later >> j & 1) == 0) {
                    pairs.add(new int[] {i, j});
                }
            }
        }
    }

    public static void main(String[] args) {
        Check.topic("promises 4, 5, 7, all bays");
        for (int tiers = 1; tiers <= 4; tiers++) {
            for (int code = 0; code < 125; code++) {
                int[] heights = {code / 25, code / 5 % 5, code % 5};
                int boxes = heights[0] + heights[1] + heights[2];
                boolean fits = heights[0] <= tiers && heights[1] <= tiers && heights[2] <= tiers;
                for (int later = 0; fits && boxes <= MOST_IN_BAY && later < 1 << boxes; later++) {
                    new AllPlansTest(tiers, heights, later).withAllNeeds();
                }
            }
        }
        Check.topic("promise 4, the bays that were planned, and the longest plan");
        Check.due(23196, plans);
        Check.due(8, longest);
        Check.end();
    }

    private void withAllNeeds() {
        for (int needs = 0; needs < 1 << pairs.size(); needs++) {
            if (!hasPairTurned(needs)) {
                compare(needs);
            }
        }
    }

    // Rings of two are left out ahead of making anything; before() refuses the longer ones.
    private boolean hasPairTurned(int needs) {
        for (int i = 0; i < pairs.size(); i++) {
            for (int j = 0; j < i; j++) {
                boolean both = (needs >> i & 1) == 1 && (needs >> j & 1) == 1;
                if (both && pairs.get(i)[0] == pairs.get(j)[1] && pairs.get(i)[1] == pairs.get(j)[0]) {
                    return true;
                }
            }
        }
        return false;
    }

    private void compare(int needs) {
        PortHouse x = new PortHouse(1, tiers, 1, 1, 1);
        Model m = new Model(1, tiers, 1, 1, 1);
        int box = 0;
        for (int stack = 0; stack < 3; stack++) {
            for (int tier = 0; tier < heights[stack]; tier++) {
                x.box(0, stack, later >> box & 1, 0, 1, 0, 1);
                m.box(0, stack, later >> box & 1, 0, 1, 0, 1);
                box++;
            }
        }
        for (int i = 0; i < pairs.size(); i++) {
            if ((needs >> i & 1) == 1) {
                boolean may = x.before(pairs.get(i)[0], pairs.get(i)[1]);
                Check.due(m.before(pairs.get(i)[0], pairs.get(i)[1]), may);
                if (!may) {
                    return;
                }
            }
        }
        samePlan(x, m);
    }

    private static void samePlan(PortHouse x, Model m) {
        int moves = x.plan(0);
        plans++;
        longest = Math.max(longest, moves);
        Check.due(m.plan(0), moves);
        Check.due(true, moves >= 0);
        Check.due(true, x.least(0) <= moves);
        for (int i = 0; i < moves; i++) {
            for (int what = 0; what < 3; what++) {
                Check.due(m.move(0, i, what), x.move(0, i, what));
            }
            Check.due(true, x.move(0, i, 1) < ASIDE - 1 && x.move(0, i, 2) < ASIDE);
        }
    }
}
