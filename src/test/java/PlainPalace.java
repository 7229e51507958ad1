import java.util.ArrayList;
import java.util.List;

/**
 * The document again, cell by cell and as slowly as it likes, for DifferentialTest to hold the class against.
 * It shares no code and few thoughts with the class: sets of 256 cells, TURNED by the document's own rule.
 */
final class PlainPalace {
    static final int BAD = -1, NOT = -2, FULL = -3, NONE = -4, LOST = -5, QUARREL = -6;
    static final int NULL = -11, CAST = -12, INDEX = -13, SIZE = -14;

    private static final class One {
        int kind, colour, step, inQuarter;
        boolean[][] at = new boolean[16][16];
        int[][] colours = new int[16][16];
    }

    private final List<One> shapes = new ArrayList<>();
    private final boolean[][] hems = new boolean[10][10];
    private int sand = 128;
    private final int[][] photo = new int[16][16];
    private int barred;
    private final Object[] sheets = new Object[4];

    // ---- 1

    /** The quarter of each cell, found by turning all cells of QUARTER 0. */
    private static int[] quarterAndPlace(int x, int y) {
        for (int u = 0; u < 8; u++) {
            for (int v = 0; v < 8; v++) {
                int cx = 8 + u, cy = 8 + v;
                for (int q = 0; q < 4; q++) {
                    if (cx == x && cy == y) {
                        return new int[] {q, u, v};
                    }
                    int nx = 15 - cy, ny = cx;
                    cx = nx;
                    cy = ny;
                }
            }
        }
        throw new IllegalStateException();
    }

    private static int[] cellAt(int u, int v, int q) {
        int cx = 8 + u, cy = 8 + v;
        for (int i = 0; i < q; i++) {
            int nx = 15 - cy, ny = cx;
            cx = nx;
            cy = ny;
        }
        return new int[] {cx, cy};
    }

    private static int round(int colour) {
        while (colour > 9) {
            colour -= 9;
        }
        while (colour < 1) {
            colour += 9;
        }
        return colour;
    }

    private int put(One one) {
        if (shapes.size() == 10) {
            return FULL;
        }
        shapes.add(one);
        return shapes.size() - 1;
    }

    private static One one(int kind, int colour) {
        One one = new One();
        one.kind = kind;
        one.colour = colour;
        return one;
    }

    private static boolean in(int n, int a, int b) {
        return a <= n && n <= b;
    }

    private static boolean between(int n, int a, int b) {
        return a <= b ? in(n, a, b) : in(n, b, a);
    }

    int disc(int colour, int n) {
        if (!in(colour, 1, 9) || !in(n, 1, 450)) {
            return BAD;
        }
        One one = one(0, colour);
        for (int x = 0; x < 16; x++) {
            for (int y = 0; y < 16; y++) {
                one.at[x][y] = (2 * x - 15) * (2 * x - 15) + (2 * y - 15) * (2 * y - 15) <= n;
                one.colours[x][y] = colour;
            }
        }
        return put(one);
    }

    int rim(int colour, int k) {
        if (!in(colour, 1, 9) || !in(k, 0, 7)) {
            return BAD;
        }
        One one = one(1, colour);
        for (int x = 0; x < 16; x++) {
            for (int y = 0; y < 16; y++) {
                one.at[x][y] = rimOf(x, y) == k;
                one.colours[x][y] = colour;
            }
        }
        return put(one);
    }

    private static int rimOf(int x, int y) {
        return (Math.max(Math.abs(2 * x - 15), Math.abs(2 * y - 15)) - 1) / 2;
    }

    private static boolean byString(int u, int v, int a, int b, int c, int d) {
        int off = (u - a) * (d - b) - (v - b) * (c - a);
        return 2 * Math.abs(off) <= Math.max(Math.abs(c - a), Math.abs(d - b));
    }

    private int placed(int kind, int colour, int a, int b, int c, int d, int step) {
        if (!in(colour, 1, 9) || !in(a, 0, 7) || !in(b, 0, 7) || !in(c, 0, 7) || !in(d, 0, 7) || !in(step, 0, 8)) {
            return BAD;
        }
        One one = one(kind, colour);
        one.step = step;
        for (int u = 0; u < 8; u++) {
            for (int v = 0; v < 8; v++) {
                if (between(u, a, c) && between(v, b, d) && (kind != 2 || byString(u, v, a, b, c, d))) {
                    one.inQuarter++;
                    for (int q = 0; q < 4; q++) {
                        int[] cell = cellAt(u, v, q);
                        one.at[cell[0]][cell[1]] = true;
                        one.colours[cell[0]][cell[1]] = round(colour + q * step);
                    }
                }
            }
        }
        return put(one);
    }

    int line(int colour, int a, int b, int c, int d) {
        return placed(2, colour, a, b, c, d, 0);
    }

    int block(int colour, int a, int b, int c, int d) {
        return placed(3, colour, a, b, c, d, 0);
    }

    int sign(int colour, int a, int b, int c, int d, int step) {
        return placed(4, colour, a, b, c, d, step);
    }

    int undo() {
        if (shapes.isEmpty()) {
            return NOT;
        }
        int last = shapes.size() - 1;
        shapes.remove(last);
        for (int i = 0; i < 10; i++) {
            hems[last][i] = false;
            hems[i][last] = false;
        }
        return last;
    }

    private boolean isShape(int s) {
        return in(s, 0, shapes.size() - 1);
    }

    private int size(int s) {
        int n = 0;
        for (int x = 0; x < 16; x++) {
            for (int y = 0; y < 16; y++) {
                n += shapes.get(s).at[x][y] ? 1 : 0;
            }
        }
        return n;
    }

    private int reach(int s) {
        int k = 0;
        for (int x = 0; x < 16; x++) {
            for (int y = 0; y < 16; y++) {
                if (shapes.get(s).at[x][y]) {
                    k = Math.max(k, rimOf(x, y));
                }
            }
        }
        return k;
    }

    int told(int shape, int what) {
        if (!isShape(shape) || !in(what, 0, 4)) {
            return BAD;
        }
        if (what == 0) {
            return shapes.get(shape).kind;
        }
        if (what == 1) {
            return shapes.get(shape).colour;
        }
        if (what == 2) {
            return size(shape);
        }
        if (what == 3) {
            return reach(shape);
        }
        int n = 0;
        for (int o = 0; o < shapes.size(); o++) {
            n += comesAfter(shape, o) ? 1 : 0;
        }
        return n;
    }

    int step(int shape) {
        if (!isShape(shape)) {
            return BAD;
        }
        return shapes.get(shape).kind == 4 ? shapes.get(shape).step : CAST;
    }

    int quarter(int shape) {
        if (!isShape(shape)) {
            return BAD;
        }
        return shapes.get(shape).kind >= 3 ? shapes.get(shape).inQuarter : CAST;
    }

    private static boolean isCell(int x, int y) {
        return in(x, 0, 15) && in(y, 0, 15);
    }

    private int look(int x, int y) {
        int look = 0;
        for (One one : shapes) {
            look = one.at[x][y] ? one.colours[x][y] : look;
        }
        return look;
    }

    private int layers(int x, int y) {
        int bits = 0;
        for (int s = 0; s < shapes.size(); s++) {
            bits += shapes.get(s).at[x][y] ? 1 << s : 0;
        }
        return bits;
    }

    int cell(int x, int y, int what) {
        if (!isCell(x, y) || !in(what, 0, 2)) {
            return BAD;
        }
        return what == 0 ? look(x, y) : what == 1 ? Integer.bitCount(layers(x, y)) : layers(x, y);
    }

    int count(int colour) {
        if (!in(colour, 0, 9)) {
            return BAD;
        }
        int n = 0;
        for (int x = 0; x < 16; x++) {
            for (int y = 0; y < 16; y++) {
                n += look(x, y) == colour ? 1 : 0;
            }
        }
        return n;
    }

    int unlike() {
        int n = 0;
        for (int x = 0; x < 16; x++) {
            for (int y = 0; y < 16; y++) {
                int[] where = quarterAndPlace(x, y);
                n += look(x, y) != look(8 + where[1], 8 + where[2]) ? 1 : 0;
            }
        }
        return n;
    }

    // ---- 2

    private boolean comesAfter(int s, int o) {
        if (hems[s][o]) {
            return true;
        }
        if (o >= s) {
            return false;
        }
        for (int x = 0; x < 16; x++) {
            for (int y = 0; y < 16; y++) {
                if (shapes.get(s).at[x][y] && shapes.get(o).at[x][y]) {
                    return true;
                }
            }
        }
        return false;
    }

    int hem(int shape, int other, boolean is) {
        if (!isShape(shape) || !isShape(other) || shape == other) {
            return BAD;
        }
        int was = hems[shape][other] ? 1 : 0;
        hems[shape][other] = is;
        return was;
    }

    int after(int shape, int other) {
        if (!isShape(shape) || !isShape(other) || shape == other) {
            return BAD;
        }
        return comesAfter(shape, other) ? 1 : 0;
    }

    int sand(int n) {
        if (!in(n, 1, 256)) {
            return BAD;
        }
        int was = sand;
        sand = n;
        return was;
    }

    /** One try at a DAY's work: the order in which a set can be poured, or null. */
    private List<Integer> orderOf(int set, int done, boolean[][] after, int[] sizes, int[] reaches) {
        List<Integer> order = new ArrayList<>();
        int left = set, poured = done, sum = 0;
        while (left != 0) {
            int low = 99;
            for (int s = 0; s < sizes.length; s++) {
                if ((left >> s & 1) != 0) {
                    low = Math.min(low, reaches[s]);
                }
            }
            int next = -1;
            for (int s = sizes.length - 1; s >= 0; s--) {
                boolean ready = (left >> s & 1) != 0 && reaches[s] == low;
                for (int o = 0; ready && o < sizes.length; o++) {
                    ready = !after[s][o] || (poured >> o & 1) != 0;
                }
                next = ready ? s : next;
            }
            if (next < 0) {
                return null;
            }
            sum += sizes[next];
            order.add(next);
            left &= ~(1 << next);
            poured |= 1 << next;
        }
        return sum <= sand ? order : null;
    }

    private boolean tryDays(int done, int days, List<List<Integer>> plan, boolean[][] after, int[] sizes, int[] reaches,
            boolean[][] failed) {
        int left = (1 << sizes.length) - 1 & ~done;
        if (left == 0 || days == 0) {
            return left == 0;
        }
        if (failed[days][done]) {
            return false;
        }
        for (int set = left; set > 0; set--) {
            if ((set & ~left) != 0) {
                continue;
            }
            List<Integer> order = orderOf(set, done, after, sizes, reaches);
            if (order == null) {
                continue;
            }
            plan.add(order);
            if (tryDays(done | set, days - 1, plan, after, sizes, reaches, failed)) {
                return true;
            }
            plan.remove(plan.size() - 1);
        }
        failed[days][done] = true;
        return false;
    }

    private List<List<Integer>> plan() {
        int n = shapes.size();
        boolean[][] after = new boolean[n][n];
        int[] sizes = new int[n], reaches = new int[n];
        for (int s = 0; s < n; s++) {
            sizes[s] = size(s);
            reaches[s] = reach(s);
            for (int o = 0; o < n; o++) {
                after[s][o] = comesAfter(s, o);
            }
        }
        for (int days = 0; days <= n; days++) {
            List<List<Integer>> plan = new ArrayList<>();
            if (tryDays(0, days, plan, after, sizes, reaches, new boolean[n + 1][1 << n])) {
                return plan;
            }
        }
        return null;
    }

    int days() {
        List<List<Integer>> plan = plan();
        return plan == null ? NONE : plan.size();
    }

    int day(int i) {
        if (i < 0) {
            return BAD;
        }
        List<List<Integer>> plan = plan();
        if (plan == null) {
            return NONE;
        }
        if (i >= plan.size()) {
            return BAD;
        }
        int bits = 0;
        for (int s : plan.get(i)) {
            bits += 1 << s;
        }
        return bits;
    }

    int poured(int place) {
        if (place < 0) {
            return BAD;
        }
        List<List<Integer>> plan = plan();
        if (plan == null) {
            return NONE;
        }
        List<Integer> all = new ArrayList<>();
        for (List<Integer> day : plan) {
            all.addAll(day);
        }
        return place < all.size() ? all.get(place) : BAD;
    }

    // ---- 3

    int photo() {
        int n = 0;
        for (int x = 0; x < 16; x++) {
            for (int y = 0; y < 16; y++) {
                photo[x][y] = look(x, y);
                n += photo[x][y] != 0 ? 1 : 0;
            }
        }
        return n;
    }

    int smear(int x, int y) {
        if (!isCell(x, y)) {
            return BAD;
        }
        int was = photo[x][y];
        photo[x][y] = -5;
        return was;
    }

    int cat(int x, int y, int dx, int dy, int n) {
        if (!isCell(x, y) || !in(dx, -1, 1) || !in(dy, -1, 1) || dx == 0 && dy == 0 || !in(n, 0, 15)) {
            return BAD;
        }
        int smeared = 0;
        while (n >= 0 && isCell(x, y)) {
            smeared += photo[x][y] != -5 ? 1 : 0;
            photo[x][y] = -5;
            x += dx;
            y += dy;
            n--;
        }
        return smeared;
    }

    int seen(int x, int y) {
        return isCell(x, y) ? photo[x][y] : BAD;
    }

    private int toldBack(int x, int y) {
        int[] where = quarterAndPlace(x, y);
        int q = where[0];
        One sign = null;
        for (One one : shapes) {
            sign = one.kind == 4 && one.at[x][y] ? one : sign;
        }
        List<Integer> all = new ArrayList<>();
        for (int p = 0; p < 4; p++) {
            int[] cell = cellAt(where[1], where[2], p);
            int colour = photo[cell[0]][cell[1]];
            if (p != q && colour != -5) {
                boolean asItIs = colour == 0 || sign == null;
                all.add(asItIs ? colour : round(colour - sign.step * p + sign.step * q));
            }
        }
        if (all.isEmpty()) {
            return LOST;
        }
        for (int colour : all) {
            if (colour != all.get(0)) {
                return QUARREL;
            }
        }
        return all.get(0);
    }

    int back(int x, int y) {
        if (!isCell(x, y)) {
            return BAD;
        }
        return photo[x][y] != -5 ? NOT : toldBack(x, y);
    }

    int mend() {
        int[][] now = new int[16][16];
        int n = 0;
        for (int x = 0; x < 16; x++) {
            for (int y = 0; y < 16; y++) {
                now[x][y] = photo[x][y];
                if (photo[x][y] == -5 && toldBack(x, y) >= 0) {
                    now[x][y] = toldBack(x, y);
                    n++;
                }
            }
        }
        for (int x = 0; x < 16; x++) {
            System.arraycopy(now[x], 0, photo[x], 0, 16);
        }
        return n;
    }

    int harm(int what) {
        if (!in(what, 0, 3)) {
            return BAD;
        }
        int[] n = new int[4];
        for (int x = 0; x < 16; x++) {
            for (int y = 0; y < 16; y++) {
                if (photo[x][y] == -5) {
                    n[0]++;
                    n[2] += toldBack(x, y) == LOST ? 1 : 0;
                    n[3] += toldBack(x, y) == QUARREL ? 1 : 0;
                } else {
                    n[1] += photo[x][y] != look(x, y) ? 1 : 0;
                }
            }
        }
        return n[what];
    }

    int again() {
        int bits = 0;
        for (int x = 0; x < 16; x++) {
            for (int y = 0; y < 16; y++) {
                bits |= photo[x][y] == -5 ? layers(x, y) : 0;
            }
        }
        int was = -1;
        while (was != bits) {
            was = bits;
            for (int s = 0; s < shapes.size(); s++) {
                for (int o = 0; o < shapes.size(); o++) {
                    bits |= (was >> o & 1) != 0 && comesAfter(s, o) ? 1 << s : 0;
                }
            }
        }
        return bits;
    }

    // ---- 4

    int bar(int fields) {
        if (!in(fields, 0, 65535)) {
            return BAD;
        }
        int was = barred;
        barred = fields;
        return was;
    }

    private void allWays(List<Integer> way, List<List<Integer>> found) {
        if (way.size() == 16 - Integer.bitCount(barred)) {
            found.add(new ArrayList<>(way));
            return;
        }
        int at = way.get(way.size() - 1);
        for (int f = 15; f >= 0; f--) {
            boolean beside = Math.abs(f % 4 - at % 4) + Math.abs(f / 4 - at / 4) == 1;
            if (beside && (barred >> f & 1) == 0 && !way.contains(f)) {
                way.add(f);
                allWays(way, found);
                way.remove(way.size() - 1);
            }
        }
    }

    private List<Integer> wayFrom(int gate) {
        int start = new int[] {1, 7, 14, 8}[gate];
        List<List<Integer>> found = new ArrayList<>();
        if ((barred >> start & 1) == 0) {
            List<Integer> way = new ArrayList<>();
            way.add(start);
            allWays(way, found);
        }
        List<Integer> first = null;
        for (List<Integer> way : found) {
            first = first == null || isAhead(way, first) ? way : first;
        }
        return first;
    }

    private static boolean isAhead(List<Integer> a, List<Integer> b) {
        for (int i = 0; i < a.size(); i++) {
            if (!a.get(i).equals(b.get(i))) {
                return a.get(i) < b.get(i);
            }
        }
        return false;
    }

    int way(int gate) {
        if (!in(gate, 0, 3)) {
            return BAD;
        }
        List<Integer> way = wayFrom(gate);
        return way == null ? NONE : way.size();
    }

    int wayAt(int gate, int place) {
        if (!in(gate, 0, 3) || place < 0) {
            return BAD;
        }
        List<Integer> way = wayFrom(gate);
        if (way == null) {
            return NONE;
        }
        return place < way.size() ? way.get(place) : BAD;
    }

    int heap(int field) {
        if (!in(field, 0, 15)) {
            return BAD;
        }
        int n = 0;
        for (int x = 0; x < 16; x++) {
            for (int y = 0; y < 16; y++) {
                n += x / 4 == field % 4 && y / 4 == field / 4 ? Integer.bitCount(layers(x, y)) : 0;
            }
        }
        return n;
    }

    // ---- 5

    int sheet(int sheet, int lane, int n) {
        if (!in(sheet, 0, 3) || !in(lane, 0, 2) || n > 256) {
            return BAD;
        }
        if (n < 0) {
            return SIZE;
        }
        sheets[sheet] = lane == 0 ? new byte[n] : lane == 1 ? (Object) new short[n] : new int[n];
        return n;
    }

    private static int length(Object row) {
        return java.lang.reflect.Array.getLength(row);
    }

    private static boolean isOf(Object row, int lane) {
        return lane == 0 ? row instanceof byte[] : lane == 1 ? row instanceof short[] : row instanceof int[];
    }

    private static void write(Object row, int i, int v) {
        if (row instanceof byte[] bytes) {
            bytes[i] = (byte) v;
        } else if (row instanceof short[] shorts) {
            shorts[i] = (short) v;
        } else {
            ((int[]) row)[i] = v;
        }
    }

    private static int read(Object row, int i) {
        return row instanceof byte[] bytes ? bytes[i] : row instanceof short[] shorts ? shorts[i] : ((int[]) row)[i];
    }

    int drop(int sheet) {
        if (!in(sheet, 0, 3)) {
            return BAD;
        }
        if (sheets[sheet] == null) {
            return NULL;
        }
        int had = length(sheets[sheet]);
        sheets[sheet] = null;
        return had;
    }

    private int refusal(int sheet, int lane, long from, long n) {
        if (sheets[sheet] == null) {
            return NULL;
        }
        if (!isOf(sheets[sheet], lane)) {
            return CAST;
        }
        return from < 0 || from + n > length(sheets[sheet]) ? INDEX : 0;
    }

    int item(int sheet, int lane, int i, int v) {
        if (!in(sheet, 0, 3) || !in(lane, 0, 2)) {
            return BAD;
        }
        int no = refusal(sheet, lane, i, 1);
        if (no != 0) {
            return no;
        }
        write(sheets[sheet], i, v);
        return 1;
    }

    int show(int sheet, int lane, int from, int cell, int n) {
        if (!in(sheet, 0, 3) || !in(lane, 0, 2) || !in(cell, 0, 256) || n < 0 || (long) cell + n > 256) {
            return BAD;
        }
        int no = refusal(sheet, lane, from, n);
        for (int i = 0; no == 0 && i < n; i++) {
            int item = read(sheets[sheet], from + i);
            no = item == -5 || in(item, 0, 9) ? 0 : NOT;
        }
        if (no != 0) {
            return no;
        }
        for (int i = 0; i < n; i++) {
            photo[(cell + i) % 16][(cell + i) / 16] = read(sheets[sheet], from + i);
        }
        return n;
    }

    int keep(int sheet, int lane, int from, int cell, int n) {
        if (!in(sheet, 0, 3) || !in(lane, 0, 2) || !in(cell, 0, 256) || n < 0 || (long) cell + n > 256) {
            return BAD;
        }
        int no = refusal(sheet, lane, from, n);
        if (no != 0) {
            return no;
        }
        for (int i = 0; i < n; i++) {
            write(sheets[sheet], from + i, photo[(cell + i) % 16][(cell + i) / 16]);
        }
        return n;
    }
}
