import java.util.Random;

/** Runs of chance calls (always the same ones) on the class and on PlainPalace: the answers must be alike. */
public final class DifferentialTest {
    private static final int RUNS = 400;
    private static final int CALLS = 512;
    private static final int PLANS = 600;
    private static final int[] EDGES = {Integer.MIN_VALUE, Integer.MIN_VALUE + 1, -257, -17, -6, -5, -2, -1, 0, 1, 7, 8, 9, 10,
        15, 16, 17, 255, 256, 257, 450, 451, 65535, 65536, Integer.MAX_VALUE - 1, Integer.MAX_VALUE};

    private final Random chance;
    private final Due due;
    private final SandPalace quick = new SandPalace();
    private final PlainPalace plain = new PlainPalace();
    private final int run;
    private final int mostShapes;
    /** Small SHAPES lie apart, so that a PLAN has much to choose. */
    private final int spread;
    private int shapes;

    private DifferentialTest(int run, Due due) {
        chance = new Random(run);
        this.run = run;
        this.due = due;
        mostShapes = run % 12;
        spread = 1 + chance.nextInt(8);
    }

    public static void main(String[] args) {
        Due due = new Due();
        for (int run = 0; run < RUNS; run++) {
            DifferentialTest test = new DifferentialTest(run, due);
            for (int i = 0; i < CALLS; i++) {
                test.call();
            }
        }
        for (int run = 0; run < PLANS; run++) {
            new DifferentialTest(RUNS + run, due).plans();
        }
        due.end();
    }

    /** Chance calls seldom come to a PLAN that HEMS, REACH and SAND shape together: here HEMS never go round. */
    private void plans() {
        int count = 2 + run % 9;
        int most = 1;
        int[] rank = new int[count];
        for (int s = 0; s < count; s++) {
            int a = chance.nextInt(8), b = chance.nextInt(8);
            int c = Math.min(7, a + chance.nextInt(3)), d = Math.min(7, b + chance.nextInt(3));
            is(5, "block" + tell(1, a, b, c, d), quick.block(1, a, b, c, d), plain.block(1, a, b, c, d));
            most = Math.max(most, plain.told(s, 2));
            rank[s] = chance.nextInt(100);
        }
        for (int i = chance.nextInt(2 * count); i > 0; i--) {
            int s = chance.nextInt(count), o = chance.nextInt(count);
            boolean keepsOrder = plain.after(o, s) == 0 && rank[s] > rank[o];
            is(14, "hem" + tell(s, o), quick.hem(s, o, keepsOrder), plain.hem(s, o, keepsOrder));
        }
        for (int sand = most; sand <= 256; sand += 1 + chance.nextInt(40)) {
            is(16, "sand" + tell(sand), quick.sand(sand), plain.sand(sand));
            int days = plain.days();
            is(17, "days()", quick.days(), days);
            for (int i = 0; i <= days; i++) {
                is(18, "day" + tell(i), quick.day(i), plain.day(i));
            }
            if (sand % 3 == 0) {
                for (int i = 0; i <= count; i++) {
                    is(19, "poured" + tell(i), quick.poured(i), plain.poured(i));
                }
            }
        }
    }

    private int from(int a, int b) {
        return chance.nextInt(60) == 0 ? EDGES[chance.nextInt(EDGES.length)] : a + chance.nextInt(b - a + 1);
    }

    private int near(int place) {
        int least = Math.max(0, Math.min(7, place) - spread + 1);
        return from(least, Math.min(7, least + 2 * spread - 2));
    }

    private int shape() {
        return chance.nextInt(12) == 0 ? from(-1, shapes) : from(0, Math.max(0, shapes - 1));
    }

    private void is(int promise, String call, int got, int want) {
        due.is(promise, "run " + run + ": " + call, got, want);
    }

    private void call() {
        switch (chance.nextInt(8)) {
            case 0 -> callShape();
            case 1, 2 -> callPicture();
            case 3 -> callWork();
            case 4, 5 -> callPhoto();
            case 6 -> callSweeper();
            default -> callSheet();
        }
    }

    private void callShape() {
        if (shapes >= mostShapes && chance.nextInt(3) > 0) {
            int want = plain.undo();
            is(7, "undo()", quick.undo(), want);
            shapes = want < 0 ? shapes : want;
            return;
        }
        int colour = from(1, 9);
        int a = from(0, 7), b = from(0, 7), c = near(a), d = near(b);
        int want;
        switch (chance.nextInt(6)) {
            case 0 -> {
                int n = chance.nextBoolean() ? from(1, 450) : from(1, 60);
                is(2, "disc(" + colour + ", " + n + ")", quick.disc(colour, n), want = plain.disc(colour, n));
            }
            case 1 -> is(3, "rim(" + colour + ", " + a + ")", quick.rim(colour, a), want = plain.rim(colour, a));
            case 2 -> is(4, "line" + tell(colour, a, b, c, d), quick.line(colour, a, b, c, d), want = plain.line(colour, a, b, c, d));
            case 3 -> is(5, "block" + tell(colour, c, b, a, d), quick.block(colour, c, b, a, d), want = plain.block(colour, c, b, a, d));
            default -> {
                int step = from(0, 8);
                is(6, "sign" + tell(colour, a, b, c, d, step), quick.sign(colour, a, b, c, d, step), want = plain.sign(colour, a, b, c, d, step));
            }
        }
        shapes = want < 0 ? shapes : want + 1;
    }

    private static String tell(int... numbers) {
        return java.util.Arrays.toString(numbers);
    }

    private void callPicture() {
        int s = shape(), what, x = from(0, 15), y = from(0, 15);
        switch (chance.nextInt(6)) {
            case 0 -> {
                what = from(0, 5);
                is(8, "told" + tell(s, what), quick.told(s, what), plain.told(s, what));
            }
            case 1 -> is(9, "step" + tell(s), quick.step(s), plain.step(s));
            case 2 -> is(10, "quarter" + tell(s), quick.quarter(s), plain.quarter(s));
            case 3 -> {
                what = from(0, 3);
                is(11, "cell" + tell(x, y, what), quick.cell(x, y, what), plain.cell(x, y, what));
            }
            case 4 -> {
                what = from(0, 10);
                is(12, "count" + tell(what), quick.count(what), plain.count(what));
            }
            default -> is(13, "unlike()", quick.unlike(), plain.unlike());
        }
    }

    private void callWork() {
        int s = shape(), o = shape();
        boolean is = chance.nextInt(3) == 0;
        switch (chance.nextInt(7)) {
            case 0 -> is(14, "hem" + tell(s, o) + is, quick.hem(s, o, is), plain.hem(s, o, is));
            case 1 -> is(15, "after" + tell(s, o), quick.after(s, o), plain.after(s, o));
            case 2 -> {
                int n = chance.nextBoolean() ? from(1, 256) : from(100, 256);
                is(16, "sand" + tell(n), quick.sand(n), plain.sand(n));
            }
            case 3 -> is(17, "days()", quick.days(), plain.days());
            case 4, 5 -> {
                int i = from(-1, 4);
                is(18, "day" + tell(i), quick.day(i), plain.day(i));
            }
            default -> {
                int place = from(-1, 10);
                is(19, "poured" + tell(place), quick.poured(place), plain.poured(place));
            }
        }
    }

    private void callPhoto() {
        int x = from(0, 15), y = from(0, 15);
        switch (chance.nextInt(12)) {
            case 0 -> is(20, "photo()", quick.photo(), plain.photo());
            case 1, 2 -> is(21, "smear" + tell(x, y), quick.smear(x, y), plain.smear(x, y));
            case 3, 4, 5 -> {
                int dx = from(-1, 1), dy = from(-1, 1), n = from(0, 15);
                is(22, "cat" + tell(x, y, dx, dy, n), quick.cat(x, y, dx, dy, n), plain.cat(x, y, dx, dy, n));
            }
            case 6 -> is(23, "seen" + tell(x, y), quick.seen(x, y), plain.seen(x, y));
            case 7, 8 -> is(24, "back" + tell(x, y), quick.back(x, y), plain.back(x, y));
            case 9 -> is(25, "mend()", quick.mend(), plain.mend());
            case 10 -> {
                int what = from(0, 4);
                is(26, "harm" + tell(what), quick.harm(what), plain.harm(what));
            }
            default -> is(27, "again()", quick.again(), plain.again());
        }
    }

    private void callSweeper() {
        switch (chance.nextInt(5)) {
            case 0 -> {
                int fields = chance.nextInt(20) == 0 ? from(-1, 65536) : 0;
                for (int i = chance.nextInt(6); i > 0; i--) {
                    fields |= 1 << chance.nextInt(16);
                }
                is(28, "bar" + tell(fields), quick.bar(fields), plain.bar(fields));
            }
            case 1 -> {
                int gate = from(0, 3);
                is(29, "way" + tell(gate), quick.way(gate), plain.way(gate));
            }
            case 2, 3 -> {
                int gate = from(0, 3), place = from(-1, 16);
                is(30, "wayAt" + tell(gate, place), quick.wayAt(gate, place), plain.wayAt(gate, place));
            }
            default -> {
                int field = from(0, 15);
                is(31, "heap" + tell(field), quick.heap(field), plain.heap(field));
            }
        }
    }

    private void callSheet() {
        int s = from(0, 3), lane = chance.nextInt(5) == 0 ? from(0, 2) : s % 3;
        int i = from(-1, 40), cell = from(0, 256), n = from(0, 40);
        switch (chance.nextInt(9)) {
            case 0 -> {
                int length = chance.nextInt(4) == 0 ? from(0, 256) : from(20, 60);
                is(32, "sheet" + tell(s, lane, length), quick.sheet(s, lane, length), plain.sheet(s, lane, length));
            }
            case 1 -> {
                if (chance.nextInt(3) == 0) {
                    is(33, "drop" + tell(s), quick.drop(s), plain.drop(s));
                }
            }
            case 2, 3, 4 -> {
                int v = chance.nextInt(3) == 0 ? chance.nextInt(10) + (chance.nextInt() << 16) : from(-6, 10);
                is(34, "item" + tell(s, lane, i, v), quick.item(s, lane, i, v), plain.item(s, lane, i, v));
            }
            case 5, 6 -> is(35, "show" + tell(s, lane, i, cell, n), quick.show(s, lane, i, cell, n), plain.show(s, lane, i, cell, n));
            default -> is(36, "keep" + tell(s, lane, i, cell, n), quick.keep(s, lane, i, cell, n), plain.keep(s, lane, i, cell, n));
        }
    }
}
