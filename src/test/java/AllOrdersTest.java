import java.util.Arrays;
import java.util.Random;

/**
 * PLAN word by word: of every order of the SHAPES, cut into DAYS in every way, those that the document allows are held against
 * each other, and the best against what the class answers. SIZE, REACH and AFTER are the object's own; other tests hold those.
 */
public final class AllOrdersTest {
    private static final int PLANS = 5000;
    private static final int MOST_SHAPES = 7;
    private static final Due DUE = new Due();

    private final Random chance;
    private final SandPalace palace = new SandPalace();
    private final int shapes;
    private final int sand;
    private final int[] sizes;
    private final int[] reaches;
    private final boolean[][] after;
    private final int[] order;
    private final boolean[] used;
    /** The DAYS of the best PLAN so far, as bits; null ahead of the first. */
    private int[] best;

    private AllOrdersTest(int run) {
        chance = new Random(run);
        shapes = 1 + run % MOST_SHAPES;
        tellShapes();
        tellHems();
        sizes = new int[shapes];
        reaches = new int[shapes];
        after = new boolean[shapes][shapes];
        for (int s = 0; s < shapes; s++) {
            sizes[s] = palace.told(s, 2);
            reaches[s] = palace.told(s, 3);
            for (int o = 0; o < shapes; o++) {
                after[s][o] = palace.after(s, o) == 1;
            }
        }
        sand = tellSand();
        order = new int[shapes];
        used = new boolean[shapes];
    }

    public static void main(String[] args) {
        for (int run = 0; run < PLANS; run++) {
            AllOrdersTest test = new AllOrdersTest(run);
            test.tryOrders(0);
            test.hold("run " + run);
        }
        DUE.end();
    }

    private void tellShapes() {
        int spread = 1 + chance.nextInt(3);
        for (int s = 0; s < shapes; s++) {
            int a = chance.nextInt(8), b = chance.nextInt(8);
            int c = Math.min(7, a + chance.nextInt(spread)), d = Math.min(7, b + chance.nextInt(spread));
            switch (chance.nextInt(8)) {
                case 0 -> palace.disc(1, 1 + chance.nextInt(30));
                case 1 -> palace.rim(1, chance.nextInt(8));
                case 2 -> palace.line(1, a, b, c, d);
                case 3 -> palace.sign(1, a, b, c, d, 1);
                default -> palace.block(1, a, b, c, d);
            }
        }
    }

    /** Seldom against one that comes AFTER it already: HEMS that go round are no PLAN, and there is little to hold then. */
    private void tellHems() {
        for (int i = chance.nextInt(shapes + 1); i > 0; i--) {
            int s = chance.nextInt(shapes), o = chance.nextInt(shapes);
            if (palace.after(o, s) == 0 || chance.nextInt(10) == 0) {
                palace.hem(s, o, true);
            }
        }
    }

    /** Near the greatest SIZE, where there is most to choose; now and then below it. */
    private int tellSand() {
        int most = 1;
        for (int size : sizes) {
            most = Math.max(most, size);
        }
        int n = Math.max(1, Math.min(256, most - (chance.nextInt(12) == 0 ? 1 : 0) + chance.nextInt(1 + 2 * most)));
        palace.sand(n);
        return n;
    }

    private void tryOrders(int place) {
        if (place == shapes) {
            for (int cuts = 0; cuts < 1 << (shapes - 1); cuts++) {
                tryDays(cuts);
            }
            return;
        }
        for (int s = 0; s < shapes; s++) {
            if (!used[s] && comesAfterUsedAlone(s)) {
                used[s] = true;
                order[place] = s;
                tryOrders(place + 1);
                used[s] = false;
            }
        }
    }

    private boolean comesAfterUsedAlone(int s) {
        for (int o = 0; o < shapes; o++) {
            if (after[s][o] && !used[o]) {
                return false;
            }
        }
        return true;
    }

    /** A bit of cuts: a new DAY begins behind that place of the order. */
    private void tryDays(int cuts) {
        int[] days = new int[Integer.bitCount(cuts) + 1];
        int day = 0, load = 0;
        for (int i = 0; i < shapes; i++) {
            boolean begins = i > 0 && (cuts >> (i - 1) & 1) != 0;
            day += begins ? 1 : 0;
            load = (begins ? 0 : load) + sizes[order[i]];
            boolean sleeveOverWet = i > 0 && !begins && reaches[order[i]] < reaches[order[i - 1]];
            if (load > sand || sleeveOverWet) {
                return;
            }
            days[day] |= 1 << order[i];
        }
        if (best == null || days.length < best.length || days.length == best.length && Arrays.compare(days, best) > 0) {
            best = days;
        }
    }

    private void hold(String run) {
        if (best == null) {
            DUE.is(17, run + ": days()", palace.days(), Edges.NONE);
            DUE.is(18, run + ": day(0)", palace.day(0), Edges.NONE);
            DUE.is(19, run + ": poured(0)", palace.poured(0), Edges.NONE);
            return;
        }
        DUE.is(17, run + ": days()", palace.days(), best.length);
        int place = 0;
        for (int i = 0; i < best.length; i++) {
            DUE.is(18, run + ": day(" + i + ")", palace.day(i), best[i]);
            for (int left = best[i]; left != 0; place++) {
                int next = nextOf(left);
                DUE.is(19, run + ": poured(" + place + ")", palace.poured(place), next);
                left &= ~(1 << next);
            }
        }
        DUE.is(18, run + ": day behind the last", palace.day(best.length), Edges.BAD);
        DUE.is(19, run + ": poured behind the last", palace.poured(place), Edges.BAD);
    }

    /** "by REACH, of like ones one that comes AFTER no other left, the least" */
    private int nextOf(int left) {
        int reach = 8;
        for (int s = 0; s < shapes; s++) {
            reach = (left >> s & 1) != 0 ? Math.min(reach, reaches[s]) : reach;
        }
        for (int s = 0; s < shapes; s++) {
            boolean isFree = (left >> s & 1) != 0 && reaches[s] == reach;
            for (int o = 0; o < shapes && isFree; o++) {
                isFree = !after[s][o] || (left >> o & 1) == 0;
            }
            if (isFree) {
                return s;
            }
        }
        throw new IllegalStateException("no SHAPE of the DAY can be poured next");
    }
}
