/**
 * A palace in coloured sand, as ../shared/DOC.md tells it.
 *
 * Cells go by the number 16 y + x, places by 8 v + u. Every SHAPE is the same in all four QUARTERS but for
 * colours, so that its cells are told whole by its places: 64 bits.
 */
public final class SandPalace {
    public static final int BAD = -1, NOT = -2, FULL = -3, NONE = -4, NULL = -11, CAST = -12, INDEX = -13, SIZE = -14;
    public static final int LOST = -5, QUARREL = -6;

    private static final int SIDE = 16;
    private static final int CELLS = 256;
    private static final int HALF = 8;
    private static final int PLACES = 64;
    private static final int QUARTERS = 4;
    private static final int MOST_SHAPES = 10;
    private static final int COLOURS = 9;
    private static final int SMEARED = -5;
    private static final int MOST_SAND = 256;
    private static final int FIRST_SAND = 128;
    private static final int SHEETS = 4;
    private static final int LANES = 3;
    private static final int MOST_ITEMS = 256;
    private static final int FIELDS = 16;
    private static final int FIELDS_A_ROW = 4;
    private static final int ALL_FIELDS = 65535;
    private static final int[] GATES = {1, 7, 14, 8};

    private final Picture picture;
    private final Work work;
    private final Photo print;
    private final Sweeper sweeper;
    private final Sheet[] sheets;

    public SandPalace() {
        picture = new Picture();
        work = new Work();
        print = new Photo();
        sweeper = new Sweeper();
        sheets = new Sheet[SHEETS];
        for (int i = 0; i < SHEETS; i++) {
            sheets[i] = new Sheet();
        }
    }

    // ---- 1 the picture

    public int disc(int colour, int n) {
        if (!isSand(colour) || !within(n, 1, 450)) {
            return BAD;
        }
        return put(new Disc(colour, n));
    }

    public int rim(int colour, int k) {
        if (!isSand(colour) || !within(k, 0, HALF - 1)) {
            return BAD;
        }
        return put(new Rim(colour, k));
    }

    public int line(int colour, int a, int b, int c, int d) {
        if (!isSand(colour) || !arePlaces(a, b, c, d)) {
            return BAD;
        }
        return put(new Line(colour, a, b, c, d));
    }

    public int block(int colour, int a, int b, int c, int d) {
        if (!isSand(colour) || !arePlaces(a, b, c, d)) {
            return BAD;
        }
        return put(new Block(colour, a, b, c, d));
    }

    public int sign(int colour, int a, int b, int c, int d, int step) {
        if (!isSand(colour) || !arePlaces(a, b, c, d) || !within(step, 0, COLOURS - 1)) {
            return BAD;
        }
        return put(new Sign(colour, a, b, c, d, step));
    }

    public int undo() {
        if (picture.shapesTold() == 0) {
            return NOT;
        }
        picture.removeLatest();
        work.forget();
        return picture.shapesTold();
    }

    public int told(int shape, int what) {
        Shape its = picture.shapeOf(shape);
        if (its == null) {
            return BAD;
        }
        switch (what) {
            case 0:
                return its.kind();
            case 1:
                return its.colour;
            case 2:
                return its.cells();
            case 3:
                return its.reach();
            case 4:
                return Integer.bitCount(picture.comesAfter(shape));
            default:
                return BAD;
        }
    }

    public int step(int shape) {
        Shape its = picture.shapeOf(shape);
        if (its == null) {
            return BAD;
        }
        return its instanceof Sign sign ? sign.step : CAST;
    }

    public int quarter(int shape) {
        Shape its = picture.shapeOf(shape);
        if (its == null) {
            return BAD;
        }
        return its instanceof Block block ? block.cellsOfQuarter() : CAST;
    }

    public int cell(int x, int y, int what) {
        if (!isCell(x, y)) {
            return BAD;
        }
        int place = placeOf(x, y);
        switch (what) {
            case 0:
                return picture.look(place, quarterOf(x, y));
            case 1:
                return Integer.bitCount(picture.layers(place));
            case 2:
                return picture.layers(place);
            default:
                return BAD;
        }
    }

    public int count(int colour) {
        return within(colour, 0, COLOURS) ? picture.cellsThatLook(colour) : BAD;
    }

    public int unlike() {
        return picture.cellsUnlikeQuarterNought();
    }

    // ---- 2 work

    public int hem(int shape, int other, boolean is) {
        if (!picture.areTwo(shape, other)) {
            return BAD;
        }
        int was = picture.hems(shape, other) ? 1 : 0;
        picture.setHem(shape, other, is);
        work.forget();
        return was;
    }

    public int after(int shape, int other) {
        if (!picture.areTwo(shape, other)) {
            return BAD;
        }
        return (picture.comesAfter(shape) >> other) & 1;
    }

    public int sand(int n) {
        if (!within(n, 1, MOST_SAND)) {
            return BAD;
        }
        return work.changeSand(n);
    }

    public int days() {
        work.plan(picture);
        return work.daysOfPlan();
    }

    public int day(int i) {
        if (i < 0) {
            return BAD;
        }
        work.plan(picture);
        return work.shapesOfDay(i);
    }

    public int poured(int place) {
        if (place < 0) {
            return BAD;
        }
        work.plan(picture);
        return work.shapeAt(place);
    }

    // ---- 3 photos

    public int photo() {
        print.take(picture);
        return CELLS - picture.cellsThatLook(0);
    }

    public int smear(int x, int y) {
        return isCell(x, y) ? print.smearCell(SIDE * y + x) : BAD;
    }

    public int cat(int x, int y, int dx, int dy, int n) {
        if (!isCell(x, y) || !isStride(dx, dy) || !within(n, 0, SIDE - 1)) {
            return BAD;
        }
        int smeared = 0;
        for (int i = 0; i <= n && isCell(x + i * dx, y + i * dy); i++) {
            if (print.smearCell(SIDE * (y + i * dy) + x + i * dx) != SMEARED) {
                smeared++;
            }
        }
        return smeared;
    }

    public int seen(int x, int y) {
        return isCell(x, y) ? print.colourOf(SIDE * y + x) : BAD;
    }

    public int back(int x, int y) {
        if (!isCell(x, y)) {
            return BAD;
        }
        if (print.colourOf(SIDE * y + x) != SMEARED) {
            return NOT;
        }
        int place = placeOf(x, y);
        return print.toldBack(place, quarterOf(x, y), picture.stepOfPlace(place));
    }

    public int mend() {
        return print.mendAll(picture);
    }

    public int harm(int what) {
        switch (what) {
            case 0:
                return print.cellsSmeared();
            case 1:
                return print.cellsOff(picture);
            case 2:
                return print.cellsToldBackAs(LOST, picture);
            case 3:
                return print.cellsToldBackAs(QUARREL, picture);
            default:
                return BAD;
        }
    }

    public int again() {
        return picture.withAllAfter(picture.shapesAt(print.smearedPlaces()));
    }

    // ---- 4 sweeping

    public int bar(int fields) {
        return within(fields, 0, ALL_FIELDS) ? sweeper.changeBars(fields) : BAD;
    }

    public int way(int gate) {
        return within(gate, 0, GATES.length - 1) ? sweeper.lengthFrom(gate) : BAD;
    }

    public int wayAt(int gate, int place) {
        if (!within(gate, 0, GATES.length - 1) || place < 0) {
            return BAD;
        }
        return sweeper.fieldAt(gate, place);
    }

    public int heap(int field) {
        if (!within(field, 0, FIELDS - 1)) {
            return BAD;
        }
        int left = field % FIELDS_A_ROW * 4;
        int low = field / FIELDS_A_ROW * 4;
        int sum = 0;
        for (int y = low; y < low + 4; y++) {
            for (int x = left; x < left + 4; x++) {
                sum += Integer.bitCount(picture.layers(placeOf(x, y)));
            }
        }
        return sum;
    }

    // ---- 5 sheets

    public int sheet(int sheet, int lane, int n) {
        if (!isSheetAndLane(sheet, lane) || n > MOST_ITEMS) {
            return BAD;
        }
        if (n < 0) {
            return SIZE;
        }
        sheets[sheet].begin(lane, n);
        return n;
    }

    public int drop(int sheet) {
        if (!within(sheet, 0, SHEETS - 1)) {
            return BAD;
        }
        if (sheets[sheet].isMissing()) {
            return NULL;
        }
        return sheets[sheet].clearAway();
    }

    public int item(int sheet, int lane, int i, int v) {
        if (!isSheetAndLane(sheet, lane)) {
            return BAD;
        }
        int refusal = sheets[sheet].refusal(lane, i, 1);
        if (refusal != 0) {
            return refusal;
        }
        sheets[sheet].write(i, v);
        return 1;
    }

    public int show(int sheet, int lane, int from, int cell, int n) {
        if (!isSheetAndLane(sheet, lane) || !areCells(cell, n)) {
            return BAD;
        }
        int refusal = sheets[sheet].refusal(lane, from, n);
        if (refusal != 0) {
            return refusal;
        }
        return print.copyFrom(sheets[sheet], from, cell, n);
    }

    public int keep(int sheet, int lane, int from, int cell, int n) {
        if (!isSheetAndLane(sheet, lane) || !areCells(cell, n)) {
            return BAD;
        }
        int refusal = sheets[sheet].refusal(lane, from, n);
        if (refusal != 0) {
            return refusal;
        }
        for (int i = 0; i < n; i++) {
            sheets[sheet].write(from + i, print.colourOf(cell + i));
        }
        return n;
    }

    // ---- what the calls share

    private int put(Shape shape) {
        if (picture.shapesTold() == MOST_SHAPES) {
            return FULL;
        }
        work.forget();
        return picture.add(shape);
    }

    private static boolean within(int n, int least, int most) {
        return n >= least && n <= most;
    }

    private static boolean isSand(int colour) {
        return within(colour, 1, COLOURS);
    }

    private static boolean isCell(int x, int y) {
        return within(x, 0, SIDE - 1) && within(y, 0, SIDE - 1);
    }

    private static boolean isStride(int dx, int dy) {
        return within(dx, -1, 1) && within(dy, -1, 1) && (dx != 0 || dy != 0);
    }

    private static boolean arePlaces(int a, int b, int c, int d) {
        return within(a, 0, HALF - 1) && within(b, 0, HALF - 1) && within(c, 0, HALF - 1) && within(d, 0, HALF - 1);
    }

    private static boolean isSheetAndLane(int sheet, int lane) {
        return within(sheet, 0, SHEETS - 1) && within(lane, 0, LANES - 1);
    }

    /** By a difference, since cell + n could wrap around. */
    private static boolean areCells(int cell, int n) {
        return within(cell, 0, CELLS) && within(n, 0, CELLS - cell);
    }

    private static int quarterOf(int x, int y) {
        if (y >= HALF) {
            return x >= HALF ? 0 : 1;
        }
        return x >= HALF ? 3 : 2;
    }

    private static int placeOf(int x, int y) {
        int u = x;
        int v = y;
        for (int turns = quarterOf(x, y); turns > 0; turns--) {
            int turnedBack = SIDE - 1 - u;
            u = v;
            v = turnedBack;
        }
        return HALF * (v - HALF) + u - HALF;
    }

    private static int cellOf(int place, int quarter) {
        int x = HALF + place % HALF;
        int y = HALF + place / HALF;
        for (int turns = 0; turns < quarter; turns++) {
            int turned = SIDE - 1 - y;
            y = x;
            x = turned;
        }
        return SIDE * y + x;
    }

    /** Bare ground stays bare; the colours of sand go round. */
    private static int shifted(int colour, int by) {
        return colour == 0 ? 0 : Math.floorMod(colour - 1 + by, COLOURS) + 1;
    }

    private abstract static class Shape {
        final int colour;
        final long places;

        Shape(int colour, long places) {
            this.colour = colour;
            this.places = places;
        }

        abstract int kind();

        int colourIn(int quarter) {
            return colour;
        }

        int cells() {
            return QUARTERS * Long.bitCount(places);
        }

        boolean isAt(int place) {
            return ((places >>> place) & 1L) != 0L;
        }

        int reach() {
            int reach = 0;
            for (int place = 0; place < PLACES; place++) {
                if (isAt(place)) {
                    reach = Math.max(reach, Math.max(place % HALF, place / HALF));
                }
            }
            return reach;
        }
    }

    private static final class Disc extends Shape {
        Disc(int colour, int n) {
            super(colour, placesOf(n));
        }

        @Override
        int kind() {
            return 0;
        }

        private static long placesOf(int n) {
            long places = 0L;
            for (int place = 0; place < PLACES; place++) {
                int across = 2 * (place % HALF) + 1;
                int up = 2 * (place / HALF) + 1;
                if (across * across + up * up <= n) {
                    places |= 1L << place;
                }
            }
            return places;
        }
    }

    private static final class Rim extends Shape {
        Rim(int colour, int k) {
            super(colour, placesOf(k));
        }

        @Override
        int kind() {
            return 1;
        }

        private static long placesOf(int k) {
            long places = 0L;
            for (int place = 0; place < PLACES; place++) {
                if (Math.max(place % HALF, place / HALF) == k) {
                    places |= 1L << place;
                }
            }
            return places;
        }
    }

    private static final class Line extends Shape {
        Line(int colour, int a, int b, int c, int d) {
            super(colour, placesOf(a, b, c, d));
        }

        @Override
        int kind() {
            return 2;
        }

        private static long placesOf(int a, int b, int c, int d) {
            int greater = Math.max(Math.abs(c - a), Math.abs(d - b));
            long places = 0L;
            for (int v = Math.min(b, d); v <= Math.max(b, d); v++) {
                for (int u = Math.min(a, c); u <= Math.max(a, c); u++) {
                    if (2 * Math.abs((u - a) * (d - b) - (v - b) * (c - a)) <= greater) {
                        places |= 1L << (HALF * v + u);
                    }
                }
            }
            return places;
        }
    }

    private static class Block extends Shape {
        Block(int colour, int a, int b, int c, int d) {
            super(colour, placesOf(a, b, c, d));
        }

        @Override
        int kind() {
            return 3;
        }

        int cellsOfQuarter() {
            return Long.bitCount(places);
        }

        private static long placesOf(int a, int b, int c, int d) {
            long places = 0L;
            for (int v = Math.min(b, d); v <= Math.max(b, d); v++) {
                for (int u = Math.min(a, c); u <= Math.max(a, c); u++) {
                    places |= 1L << (HALF * v + u);
                }
            }
            return places;
        }
    }

    private static final class Sign extends Block {
        final int step;

        Sign(int colour, int a, int b, int c, int d, int step) {
            super(colour, a, b, c, d);
            this.step = step;
        }

        @Override
        int kind() {
            return 4;
        }

        @Override
        int colourIn(int quarter) {
            return shifted(colour, quarter * step);
        }
    }

    /** The SHAPES as they come and the HEMS among them. */
    private static final class Picture {
        private final Shape[] shapes = new Shape[MOST_SHAPES];
        private final int[] hemmed = new int[MOST_SHAPES];
        private int size;

        int shapesTold() {
            return size;
        }

        /** Null where a number names no SHAPE. */
        Shape shapeOf(int number) {
            return within(number, 0, size - 1) ? shapes[number] : null;
        }

        boolean areTwo(int shape, int other) {
            return within(shape, 0, size - 1) && within(other, 0, size - 1) && shape != other;
        }

        /** The caller has seen that there is room. */
        int add(Shape shape) {
            shapes[size] = shape;
            hemmed[size] = 0;
            return size++;
        }

        /** The caller has seen that there is one. */
        void removeLatest() {
            size--;
            shapes[size] = null;
            for (int s = 0; s < size; s++) {
                hemmed[s] &= ~(1 << size);
            }
        }

        boolean hems(int shape, int other) {
            return ((hemmed[shape] >> other) & 1) != 0;
        }

        void setHem(int shape, int other, boolean is) {
            if (is) {
                hemmed[shape] |= 1 << other;
            } else {
                hemmed[shape] &= ~(1 << other);
            }
        }

        /** As bits the SHAPES that a SHAPE comes AFTER. */
        int comesAfter(int shape) {
            int ahead = hemmed[shape];
            for (int other = 0; other < shape; other++) {
                if ((shapes[shape].places & shapes[other].places) != 0L) {
                    ahead |= 1 << other;
                }
            }
            return ahead;
        }

        int layers(int place) {
            int layers = 0;
            for (int s = 0; s < size; s++) {
                if (shapes[s].isAt(place)) {
                    layers |= 1 << s;
                }
            }
            return layers;
        }

        int look(int place, int quarter) {
            for (int s = size - 1; s >= 0; s--) {
                if (shapes[s].isAt(place)) {
                    return shapes[s].colourIn(quarter);
                }
            }
            return 0;
        }

        /** STEP of the last SIGN at a place; 0 without one, which leaves colours as they are. */
        int stepOfPlace(int place) {
            for (int s = size - 1; s >= 0; s--) {
                if (shapes[s] instanceof Sign sign && sign.isAt(place)) {
                    return sign.step;
                }
            }
            return 0;
        }

        int cellsThatLook(int colour) {
            int cells = 0;
            for (int place = 0; place < PLACES; place++) {
                for (int q = 0; q < QUARTERS; q++) {
                    if (look(place, q) == colour) {
                        cells++;
                    }
                }
            }
            return cells;
        }

        int cellsUnlikeQuarterNought() {
            int cells = 0;
            for (int place = 0; place < PLACES; place++) {
                int first = look(place, 0);
                for (int q = 1; q < QUARTERS; q++) {
                    if (look(place, q) != first) {
                        cells++;
                    }
                }
            }
            return cells;
        }

        int shapesAt(long places) {
            int found = 0;
            for (int s = 0; s < size; s++) {
                if ((shapes[s].places & places) != 0L) {
                    found |= 1 << s;
                }
            }
            return found;
        }

        /** HEMS may lead to SHAPES told earlier, so that one round is not enough; each but the last finds one more. */
        int withAllAfter(int some) {
            int found = some;
            for (int round = 0; round < size; round++) {
                for (int s = 0; s < size; s++) {
                    if ((comesAfter(s) & found) != 0) {
                        found |= 1 << s;
                    }
                }
            }
            return found;
        }
    }

    /**
     * SAND and PLAN. The PLAN is kept until something that it hangs on changes. Its rows have one item for each
     * set of SHAPES (as bits) and are made once.
     */
    private static final class Work {
        private static final int SETS = 1 << MOST_SHAPES;
        /** More than all SHAPES together can weigh: a set that is no DAY's work whatever SAND is. */
        private static final int TOO_MUCH = 4096;
        private static final int MANY_DAYS = 99;

        private int sandOfDay = FIRST_SAND;
        private boolean known;
        private int all;
        private int days;
        private int count;
        private final int[] ahead = new int[MOST_SHAPES];
        private final int[] weight = new int[MOST_SHAPES];
        private final int[] reach = new int[MOST_SHAPES];
        private final int[] apart = new int[MOST_SHAPES];
        private final int[] needed = new int[SETS];
        private final int[] load = new int[SETS];
        private final int[] fewest = new int[SETS];
        private final int[] dayShapes = new int[MOST_SHAPES];
        private final int[] order = new int[MOST_SHAPES];

        void forget() {
            known = false;
        }

        int changeSand(int n) {
            int was = sandOfDay;
            sandOfDay = n;
            known = false;
            return was;
        }

        int daysOfPlan() {
            return days;
        }

        int shapesOfDay(int i) {
            if (days == NONE) {
                return NONE;
            }
            return i < days ? dayShapes[i] : BAD;
        }

        int shapeAt(int place) {
            if (days == NONE) {
                return NONE;
            }
            return place < count ? order[place] : BAD;
        }

        void plan(Picture picture) {
            if (known) {
                return;
            }
            known = true;
            days = NONE;
            read(picture);
            if (isOneTooLarge() || goesRound()) {
                return;
            }
            separate();
            weighSets();
            for (int done = all; done >= 0; done--) {
                fewest[done] = fewestFrom(done);
            }
            days = fewest[0];
            chooseDays();
            orderShapes();
        }

        private void read(Picture picture) {
            count = picture.shapesTold();
            all = (1 << count) - 1;
            for (int s = 0; s < count; s++) {
                Shape shape = picture.shapeOf(s);
                if (shape != null) {
                    ahead[s] = picture.comesAfter(s);
                    weight[s] = shape.cells();
                    reach[s] = shape.reach();
                }
            }
        }

        private boolean isOneTooLarge() {
            for (int s = 0; s < count; s++) {
                if (weight[s] > sandOfDay) {
                    return true;
                }
            }
            return false;
        }

        private boolean goesRound() {
            int left = all;
            for (int round = 0; round < count; round++) {
                for (int s = 0; s < count; s++) {
                    if ((ahead[s] & left) == 0) {
                        left &= ~(1 << s);
                    }
                }
            }
            return left != 0;
        }

        /** A SHAPE that comes AFTER one of greater REACH can't be poured on the same DAY. */
        private void separate() {
            for (int s = 0; s < count; s++) {
                apart[s] = 0;
            }
            for (int s = 0; s < count; s++) {
                for (int other = 0; other < count; other++) {
                    if (((ahead[s] >> other) & 1) != 0 && reach[other] > reach[s]) {
                        apart[s] |= 1 << other;
                        apart[other] |= 1 << s;
                    }
                }
            }
        }

        private void weighSets() {
            needed[0] = 0;
            load[0] = 0;
            for (int set = 1; set <= all; set++) {
                int least = Integer.numberOfTrailingZeros(set);
                int rest = set & (set - 1);
                needed[set] = needed[rest] | ahead[least];
                load[set] = (rest & apart[least]) != 0 ? TOO_MUCH : load[rest] + weight[least];
            }
        }

        /** DAYS for what is left, if all in done is poured; MANY_DAYS, if done lacks what one in it comes AFTER. */
        private int fewestFrom(int done) {
            if (done == all) {
                return 0;
            }
            if ((needed[done] & ~done) != 0) {
                return MANY_DAYS;
            }
            int bound = boundFrom(done);
            int best = MANY_DAYS;
            int left = all & ~done;
            for (int set = left; set > 0 && best > bound; set = (set - 1) & left) {
                if (load[set] <= sandOfDay) {
                    best = Math.min(best, 1 + fewest[done | set]);
                }
            }
            return best;
        }

        /** Having poured one more never costs a DAY more, so that the search may end at the greatest of these. */
        private int boundFrom(int done) {
            int bound = 1;
            for (int s = 0; s < count; s++) {
                int more = done | (1 << s);
                if (more != done && fewest[more] < MANY_DAYS) {
                    bound = Math.max(bound, fewest[more]);
                }
            }
            return bound;
        }

        private void chooseDays() {
            int done = 0;
            for (int i = 0; i < days && i < MOST_SHAPES; i++) {
                dayShapes[i] = greatestDay(done);
                done |= dayShapes[i];
            }
        }

        private int greatestDay(int done) {
            int left = all & ~done;
            for (int set = left; set > 0; set = (set - 1) & left) {
                if (load[set] <= sandOfDay && fewest[done | set] == fewest[done] - 1) {
                    return set;
                }
            }
            return 0;
        }

        private void orderShapes() {
            int place = 0;
            for (int i = 0; i < days && i < MOST_SHAPES; i++) {
                int left = dayShapes[i];
                for (int n = Integer.bitCount(left); n > 0 && place < count; n--) {
                    int next = nextOf(left);
                    order[place++] = next;
                    left &= ~(1 << next);
                }
            }
        }

        private int nextOf(int left) {
            int next = -1;
            for (int s = 0; s < count; s++) {
                boolean free = ((left >> s) & 1) != 0 && (ahead[s] & left) == 0;
                if (free && (next < 0 || reach[s] < reach[next])) {
                    next = s;
                }
            }
            return Math.max(next, 0);
        }
    }

    /** A COLOUR of each cell, or SMEARED. */
    private static final class Photo {
        private final int[] colours = new int[CELLS];
        private final int[] fourBack = new int[QUARTERS];

        void take(Picture picture) {
            for (int place = 0; place < PLACES; place++) {
                for (int q = 0; q < QUARTERS; q++) {
                    colours[cellOf(place, q)] = picture.look(place, q);
                }
            }
        }

        int colourOf(int cell) {
            return colours[cell];
        }

        int smearCell(int cell) {
            int was = colours[cell];
            colours[cell] = SMEARED;
            return was;
        }

        private boolean isSmeared(int place, int quarter) {
            return colours[cellOf(place, quarter)] == SMEARED;
        }

        int toldBack(int place, int quarter, int step) {
            int answer = LOST;
            for (int p = 0; p < QUARTERS; p++) {
                if (p == quarter || isSmeared(place, p)) {
                    continue;
                }
                int here = shifted(colours[cellOf(place, p)], step * (quarter - p));
                if (answer != LOST && answer != here) {
                    return QUARREL;
                }
                answer = here;
            }
            return answer;
        }

        int mendAll(Picture picture) {
            int mended = 0;
            for (int place = 0; place < PLACES; place++) {
                mended += mendPlace(place, picture.stepOfPlace(place));
            }
            return mended;
        }

        /** All four are told back ahead of writing any, lest one be told by a cell that was just mended. */
        private int mendPlace(int place, int step) {
            for (int q = 0; q < QUARTERS; q++) {
                fourBack[q] = isSmeared(place, q) ? toldBack(place, q, step) : NOT;
            }
            int mended = 0;
            for (int q = 0; q < QUARTERS; q++) {
                if (fourBack[q] >= 0) {
                    colours[cellOf(place, q)] = fourBack[q];
                    mended++;
                }
            }
            return mended;
        }

        int cellsSmeared() {
            int cells = 0;
            for (int cell = 0; cell < CELLS; cell++) {
                if (colours[cell] == SMEARED) {
                    cells++;
                }
            }
            return cells;
        }

        int cellsOff(Picture picture) {
            int cells = 0;
            for (int place = 0; place < PLACES; place++) {
                for (int q = 0; q < QUARTERS; q++) {
                    if (!isSmeared(place, q) && colours[cellOf(place, q)] != picture.look(place, q)) {
                        cells++;
                    }
                }
            }
            return cells;
        }

        int cellsToldBackAs(int answer, Picture picture) {
            int cells = 0;
            for (int place = 0; place < PLACES; place++) {
                int step = picture.stepOfPlace(place);
                for (int q = 0; q < QUARTERS; q++) {
                    if (isSmeared(place, q) && toldBack(place, q, step) == answer) {
                        cells++;
                    }
                }
            }
            return cells;
        }

        /** A SHAPE that has a place has all its four cells, so that places are enough. */
        long smearedPlaces() {
            long places = 0L;
            for (int cell = 0; cell < CELLS; cell++) {
                if (colours[cell] == SMEARED) {
                    places |= 1L << placeOf(cell % SIDE, cell / SIDE);
                }
            }
            return places;
        }

        /** All items are looked at ahead of the first that is written: what is refused changes nothing. */
        int copyFrom(Sheet sheet, int from, int cell, int n) {
            for (int i = 0; i < n; i++) {
                int item = sheet.read(from + i);
                if (item != SMEARED && !within(item, 0, COLOURS)) {
                    return NOT;
                }
            }
            for (int i = 0; i < n; i++) {
                colours[cell + i] = sheet.read(from + i);
            }
            return n;
        }
    }

    /** BARRED fields, and the WAY from each GATE, kept until the bars change. */
    private static final class Sweeper {
        private static final int UNKNOWN = -9;

        private int barred;
        private final int[][] ways = new int[4][FIELDS];
        private final int[] lengths = {UNKNOWN, UNKNOWN, UNKNOWN, UNKNOWN};

        int changeBars(int fields) {
            int was = barred;
            barred = fields;
            for (int gate = 0; gate < lengths.length; gate++) {
                lengths[gate] = UNKNOWN;
            }
            return was;
        }

        int lengthFrom(int gate) {
            if (lengths[gate] == UNKNOWN) {
                int open = ALL_FIELDS & ~barred;
                boolean found = isOpen(GATES[gate], open) && goesOn(ways[gate], 0, GATES[gate], open);
                lengths[gate] = found ? Integer.bitCount(open) : NONE;
            }
            return lengths[gate];
        }

        int fieldAt(int gate, int place) {
            int length = lengthFrom(gate);
            if (length == NONE) {
                return NONE;
            }
            return place < length ? ways[gate][place] : BAD;
        }

        private static boolean isOpen(int field, int open) {
            return ((open >> field) & 1) != 0;
        }

        /** Neighbours are tried from the least on, so that the first WAY found is the first by fields. */
        private static boolean goesOn(int[] way, int place, int field, int open) {
            if (place >= FIELDS) {
                return false;
            }
            way[place] = field;
            int left = open & ~(1 << field);
            if (left == 0) {
                return true;
            }
            int column = field % FIELDS_A_ROW;
            boolean found = field >= FIELDS_A_ROW && triesOn(way, place, field - FIELDS_A_ROW, left);
            found = found || column > 0 && triesOn(way, place, field - 1, left);
            found = found || column < FIELDS_A_ROW - 1 && triesOn(way, place, field + 1, left);
            return found || field < FIELDS - FIELDS_A_ROW && triesOn(way, place, field + FIELDS_A_ROW, left);
        }

        private static boolean triesOn(int[] way, int place, int next, int left) {
            return isOpen(next, left) && goesOn(way, place + 1, next, left);
        }
    }

    /** One row serves all LANES, since a new SHEET may come with every call: the lane tells how items are cut. */
    private static final class Sheet {
        private static final int MISSING = -1;

        private final int[] items = new int[MOST_ITEMS];
        private int laneOfRow = MISSING;
        private int length;

        boolean isMissing() {
            return laneOfRow == MISSING;
        }

        void begin(int lane, int n) {
            laneOfRow = lane;
            length = n;
            for (int i = 0; i < n; i++) {
                items[i] = 0;
            }
        }

        int clearAway() {
            int had = length;
            laneOfRow = MISSING;
            length = 0;
            return had;
        }

        /** What the machine would find, or 0. By a difference, since from + n could wrap around. */
        int refusal(int lane, int from, int n) {
            if (isMissing()) {
                return NULL;
            }
            if (laneOfRow != lane) {
                return CAST;
            }
            return from < 0 || from > length - n ? INDEX : 0;
        }

        int read(int i) {
            return items[i];
        }

        void write(int i, int v) {
            if (laneOfRow == 0) {
                items[i] = (byte) v;
            } else if (laneOfRow == 1) {
                items[i] = (short) v;
            } else {
                items[i] = v;
            }
        }
    }
}
