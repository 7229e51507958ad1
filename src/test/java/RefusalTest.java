import java.util.ArrayList;
import java.util.Arrays;
import java.util.List;
import java.util.function.Supplier;
import java.util.function.ToIntFunction;

/** "Refusals are answers, of several the first that a call names" and "What is refused changes nothing." */
public final class RefusalTest {
    private static final int BAD = Edges.BAD, NOT = Edges.NOT, FULL = Edges.FULL, NONE = Edges.NONE;
    private static final int NULL = Edges.NULL, CAST = Edges.CAST, INDEX = Edges.INDEX, SIZE = Edges.SIZE;
    private static final int LEAST = Edges.LEAST, MOST = Edges.MOST;
    private static final Due DUE = new Due();

    private record Call(int promise, String name, ToIntFunction<SandPalace> answer, int due) {
    }

    private RefusalTest() {
    }

    public static void main(String[] args) {
        theAnswers();
        badAheadOfFull();
        badAheadOfNone();
        badAheadOfSize();
        itemInOrder();
        showInOrder();
        keepInOrder();
        changesNothing("a new object", SandPalace::new, refusedAlways(), refusedAtFirst());
        changesNothing("a few told", RefusalTest::ofSome, refusedAlways(), refusedWithSome());
        changesNothing("all full", RefusalTest::ofAll, refusedAlways(), refusedWithAll());
        showNotChangesNothing("a new object", SandPalace::new);
        showNotChangesNothing("a few told", RefusalTest::ofSome);
        showNotChangesNothing("all full", RefusalTest::ofAll);
        DUE.end();
    }

    /** "BAD -1 .., NOT -2 .., FULL -3, NONE -4 .., CAST -12 ..: NULL -11, INDEX -13, SIZE -14" */
    private static void theAnswers() {
        int[] due = {-1, -2, -3, -4, -5, -6, -11, -12, -13, -14};
        int[] got = {SandPalace.BAD, SandPalace.NOT, SandPalace.FULL, SandPalace.NONE, SandPalace.LOST, SandPalace.QUARREL,
            SandPalace.NULL, SandPalace.CAST, SandPalace.INDEX, SandPalace.SIZE};
        for (int i = 0; i < due.length; i++) {
            DUE.is(0, "constant " + i, got[i], due[i]);
        }
    }

    private static void badAheadOfFull() {
        SandPalace x = Edges.ofTen();
        for (int colour : new int[] {LEAST, 0, 10, MOST}) {
            DUE.is(2, "disc colour", x.disc(colour, 1), BAD);
            DUE.is(3, "rim colour", x.rim(colour, 0), BAD);
            DUE.is(4, "line colour", x.line(colour, 0, 0, 0, 0), BAD);
            DUE.is(5, "block colour", x.block(colour, 0, 0, 0, 0), BAD);
            DUE.is(6, "sign colour", x.sign(colour, 0, 0, 0, 0, 0), BAD);
        }
        DUE.is(2, "disc n", x.disc(1, 0), BAD);
        DUE.is(2, "disc n", x.disc(1, 451), BAD);
        for (int wrong : new int[] {LEAST, -1, 8, MOST}) {
            DUE.is(3, "rim k", x.rim(1, wrong), BAD);
            for (int place = 0; place < 4; place++) {
                int[] at = new int[4];
                at[place] = wrong;
                DUE.is(4, "line", x.line(1, at[0], at[1], at[2], at[3]), BAD);
                DUE.is(5, "block", x.block(1, at[0], at[1], at[2], at[3]), BAD);
                DUE.is(6, "sign", x.sign(1, at[0], at[1], at[2], at[3], 0), BAD);
            }
        }
        DUE.is(6, "sign step", x.sign(1, 0, 0, 0, 0, -1), BAD);
        DUE.is(6, "sign step", x.sign(1, 0, 0, 0, 0, 9), BAD);
        DUE.is(6, "FULL", x.sign(1, 0, 0, 0, 0, 8), FULL);
    }

    private static void badAheadOfNone() {
        SandPalace x = ofAll();
        DUE.is(18, "day(-1)", x.day(-1), BAD);
        DUE.is(18, "day(0)", x.day(0), NONE);
        DUE.is(19, "poured(-1)", x.poured(-1), BAD);
        DUE.is(19, "poured(0)", x.poured(0), NONE);
        DUE.is(29, "way(4)", x.way(4), BAD);
        DUE.is(29, "way(3)", x.way(3), NONE);
        DUE.is(30, "wayAt(4, 0)", x.wayAt(4, 0), BAD);
        DUE.is(30, "wayAt(3, -1)", x.wayAt(3, -1), BAD);
        DUE.is(30, "wayAt(3, 0)", x.wayAt(3, 0), NONE);
    }

    private static void badAheadOfSize() {
        SandPalace x = new SandPalace();
        for (int n : new int[] {LEAST, -1}) {
            DUE.is(32, "no sheet", x.sheet(-1, 0, n), BAD);
            DUE.is(32, "no sheet", x.sheet(4, 0, n), BAD);
            DUE.is(32, "no LANE", x.sheet(0, -1, n), BAD);
            DUE.is(32, "no LANE", x.sheet(0, 3, n), BAD);
            DUE.is(32, "a sheet and a LANE", x.sheet(0, 0, n), SIZE);
        }
    }

    /** Sheet 0 is missing, sheet 1 has shorts: two, the last of which is no COLOUR. */
    private static SandPalace ofSheets() {
        SandPalace x = new SandPalace();
        x.sheet(1, 1, 2);
        x.item(1, 1, 1, 10);
        return x;
    }

    /** "BAD; NULL; CAST; INDEX." */
    private static void itemInOrder() {
        SandPalace x = ofSheets();
        DUE.is(34, "BAD: no sheet", x.item(4, 0, -1, 1), BAD);
        DUE.is(34, "BAD ahead of NULL", x.item(0, 3, -1, 1), BAD);
        DUE.is(34, "BAD ahead of CAST", x.item(1, 3, 0, 1), BAD);
        DUE.is(34, "BAD ahead of INDEX", x.item(1, -1, 2, 1), BAD);
        DUE.is(34, "NULL ahead of CAST and INDEX", x.item(0, 0, -1, 1), NULL);
        DUE.is(34, "NULL ahead of CAST and INDEX", x.item(0, 2, MOST, 1), NULL);
        DUE.is(34, "CAST ahead of INDEX", x.item(1, 0, -1, 1), CAST);
        DUE.is(34, "CAST ahead of INDEX", x.item(1, 2, 2, 1), CAST);
        DUE.is(34, "INDEX", x.item(1, 1, 2, 1), INDEX);
        DUE.is(34, "none", x.item(1, 1, 1, 10), 1);
    }

    /** "BAD: also cells beyond; NULL; CAST; INDEX; NOT: one is not as told." */
    private static void showInOrder() {
        SandPalace x = ofSheets();
        DUE.is(35, "BAD: no sheet", x.show(-1, 1, 0, 0, 1), BAD);
        DUE.is(35, "BAD ahead of NULL: LANE", x.show(0, 3, 0, 0, 1), BAD);
        DUE.is(35, "BAD ahead of NULL: cell", x.show(0, 0, 0, 257, 0), BAD);
        DUE.is(35, "BAD ahead of NULL: n", x.show(0, 0, 0, 0, -1), BAD);
        DUE.is(35, "BAD ahead of NULL: beyond", x.show(0, 0, 0, 255, 2), BAD);
        DUE.is(35, "BAD ahead of CAST", x.show(1, 0, 0, -1, 1), BAD);
        DUE.is(35, "BAD ahead of CAST", x.show(1, 2, 0, 256, 1), BAD);
        DUE.is(35, "BAD ahead of INDEX", x.show(1, 1, 1, 255, 2), BAD);
        DUE.is(35, "BAD ahead of INDEX", x.show(1, 1, 3, 0, -1), BAD);
        DUE.is(35, "BAD ahead of NOT", x.show(1, 1, 0, 255, 2), BAD);
        DUE.is(35, "NULL ahead of INDEX", x.show(0, 1, -1, 0, 1), NULL);
        DUE.is(35, "NULL ahead of INDEX", x.show(0, 1, 0, 0, 256), NULL);
        DUE.is(35, "CAST ahead of INDEX", x.show(1, 0, -1, 0, 1), CAST);
        DUE.is(35, "CAST ahead of INDEX", x.show(1, 2, 1, 0, 2), CAST);
        DUE.is(35, "CAST ahead of NOT", x.show(1, 0, 1, 0, 1), CAST);
        DUE.is(35, "INDEX ahead of NOT", x.show(1, 1, 1, 0, 2), INDEX);
        DUE.is(35, "INDEX ahead of NOT", x.show(1, 1, -1, 0, 3), INDEX);
        DUE.is(35, "NOT", x.show(1, 1, 0, 254, 2), NOT);
        DUE.is(35, "none", x.show(1, 1, 0, 255, 1), 1);
    }

    /** "BAD; NULL; CAST; INDEX." */
    private static void keepInOrder() {
        SandPalace x = ofSheets();
        DUE.is(36, "BAD: no sheet", x.keep(4, 1, 0, 0, 1), BAD);
        DUE.is(36, "BAD ahead of NULL: LANE", x.keep(0, -1, 0, 0, 1), BAD);
        DUE.is(36, "BAD ahead of NULL: cell", x.keep(0, 0, 0, -1, 0), BAD);
        DUE.is(36, "BAD ahead of NULL: n", x.keep(0, 0, 0, 0, 257), BAD);
        DUE.is(36, "BAD ahead of NULL: beyond", x.keep(0, 0, 0, 256, 1), BAD);
        DUE.is(36, "BAD ahead of CAST", x.keep(1, 0, 0, 257, 0), BAD);
        DUE.is(36, "BAD ahead of CAST", x.keep(1, 2, 0, 200, 57), BAD);
        DUE.is(36, "BAD ahead of INDEX", x.keep(1, 1, 2, 256, 1), BAD);
        DUE.is(36, "BAD ahead of INDEX", x.keep(1, 1, 3, 0, LEAST), BAD);
        DUE.is(36, "NULL ahead of INDEX", x.keep(0, 1, 1, 0, 1), NULL);
        DUE.is(36, "CAST ahead of INDEX", x.keep(1, 0, 2, 0, 1), CAST);
        DUE.is(36, "CAST ahead of INDEX", x.keep(1, 2, LEAST, 0, 0), CAST);
        DUE.is(36, "INDEX", x.keep(1, 1, 1, 254, 2), INDEX);
        DUE.is(36, "none", x.keep(1, 1, 0, 254, 2), 2);
    }

    // ---- what is refused changes nothing

    /** Five SHAPES, HEMS, a PLAN, an older PHOTO with SMEARED, LOST and QUARREL, bars, three sheets of four. */
    private static SandPalace ofSome() {
        SandPalace x = new SandPalace();
        x.rim(3, 5);
        x.sign(8, 2, 2, 5, 4, 4);
        x.photo();
        x.disc(2, 90);
        x.line(7, 0, 7, 7, 6);
        x.block(1, 0, 0, 1, 1);
        x.hem(3, 0, true);
        x.hem(4, 3, true);
        x.sand(140);
        x.days();
        x.cat(2, 3, 1, 1, 9);
        x.cat(13, 2, -1, 1, 9);
        x.smear(13, 8);
        x.bar(5 << 12);
        x.way(2);
        x.sheet(0, 0, 6);
        x.sheet(1, 1, 256);
        x.sheet(2, 2, 0);
        for (int i = 0; i < 6; i++) {
            x.item(0, 0, i, 9 - i);
        }
        x.keep(1, 1, 0, 0, 256);
        return x;
    }

    /** Ten SHAPES whose HEMS go round, all SMEARED, all BARRED, four sheets of 256. */
    private static SandPalace ofAll() {
        SandPalace x = Edges.ofTen();
        for (int s = 0; s < 10; s++) {
            x.hem(s, (s + 1) % 10, true);
        }
        x.sand(256);
        x.days();
        x.photo();
        for (int s = 0; s < 4; s++) {
            x.sheet(s, s % 3, 256);
            x.keep(s, s % 3, 0, 0, 256);
        }
        for (int row = 0; row < 16; row++) {
            x.cat(0, row, 1, 0, 15);
        }
        x.bar(65535);
        x.way(1);
        return x;
    }

    /** What no object takes, whatever it is like. */
    private static List<Call> refusedAlways() {
        List<Call> calls = new ArrayList<>();
        for (int colour : new int[] {LEAST, -1, 0, 10, MOST}) {
            calls.add(new Call(2, "disc", x -> x.disc(colour, 100), BAD));
            calls.add(new Call(3, "rim", x -> x.rim(colour, 3), BAD));
            calls.add(new Call(4, "line", x -> x.line(colour, 0, 0, 7, 3), BAD));
            calls.add(new Call(5, "block", x -> x.block(colour, 0, 0, 7, 3), BAD));
            calls.add(new Call(6, "sign", x -> x.sign(colour, 0, 0, 7, 3, 1), BAD));
        }
        for (int n : new int[] {LEAST, -1, 0, 451, MOST}) {
            calls.add(new Call(2, "disc", x -> x.disc(1, n), BAD));
        }
        for (int n : new int[] {LEAST, -1, 8, MOST}) {
            calls.add(new Call(3, "rim", x -> x.rim(1, n), BAD));
            calls.add(new Call(4, "line", x -> x.line(1, n, 1, 2, 3), BAD));
            calls.add(new Call(4, "line", x -> x.line(1, 0, 1, 2, n), BAD));
            calls.add(new Call(5, "block", x -> x.block(1, 0, n, 2, 3), BAD));
            calls.add(new Call(5, "block", x -> x.block(1, 0, 1, n, 3), BAD));
            calls.add(new Call(6, "sign", x -> x.sign(1, n, 1, 2, 3, 1), BAD));
            calls.add(new Call(6, "sign", x -> x.sign(1, 0, 1, 2, n, 1), BAD));
        }
        for (int n : new int[] {LEAST, -1, 9, MOST}) {
            calls.add(new Call(6, "sign", x -> x.sign(1, 0, 1, 2, 3, n), BAD));
        }
        refusedWork(calls);
        refusedPhoto(calls);
        refusedSheets(calls);
        return calls;
    }

    private static void refusedWork(List<Call> calls) {
        for (int n : new int[] {LEAST, -1, 10, MOST}) {
            calls.add(new Call(8, "told", x -> x.told(n, 0), BAD));
            calls.add(new Call(9, "step", x -> x.step(n), BAD));
            calls.add(new Call(10, "quarter", x -> x.quarter(n), BAD));
            calls.add(new Call(12, "count", x -> x.count(n), BAD));
            for (int other : new int[] {-1, 0, 1, 9, 10}) {
                calls.add(new Call(14, "hem", x -> x.hem(n, other, true), BAD));
                calls.add(new Call(14, "hem", x -> x.hem(other, n, true), BAD));
                calls.add(new Call(14, "hem", x -> x.hem(n, other, false), BAD));
                calls.add(new Call(14, "hem", x -> x.hem(other, n, false), BAD));
                calls.add(new Call(15, "after", x -> x.after(n, other), BAD));
            }
        }
        for (int s = 0; s < 10; s++) {
            int self = s;
            calls.add(new Call(14, "hem itself", x -> x.hem(self, self, true), BAD));
            calls.add(new Call(14, "hem itself", x -> x.hem(self, self, false), BAD));
            calls.add(new Call(15, "after itself", x -> x.after(self, self), BAD));
        }
        for (int n : new int[] {LEAST, -1, 0, 257, MOST}) {
            calls.add(new Call(16, "sand", x -> x.sand(n), BAD));
        }
        for (int n : new int[] {LEAST, -1}) {
            calls.add(new Call(18, "day", x -> x.day(n), BAD));
            calls.add(new Call(19, "poured", x -> x.poured(n), BAD));
            calls.add(new Call(30, "wayAt", x -> x.wayAt(0, n), BAD));
        }
        for (int n : new int[] {LEAST, -1, 65536, MOST}) {
            calls.add(new Call(28, "bar", x -> x.bar(n), BAD));
        }
        for (int n : new int[] {LEAST, -1, 4, MOST}) {
            calls.add(new Call(29, "way", x -> x.way(n), BAD));
            calls.add(new Call(30, "wayAt", x -> x.wayAt(n, 0), BAD));
        }
    }

    private static void refusedPhoto(List<Call> calls) {
        for (int n : new int[] {LEAST, -1, 16, MOST}) {
            calls.add(new Call(11, "cell", x -> x.cell(n, 0, 0), BAD));
            calls.add(new Call(11, "cell", x -> x.cell(0, n, 1), BAD));
            calls.add(new Call(11, "cell", x -> x.cell(0, 0, n), BAD));
            calls.add(new Call(21, "smear", x -> x.smear(n, 0), BAD));
            calls.add(new Call(21, "smear", x -> x.smear(15, n), BAD));
            calls.add(new Call(22, "cat", x -> x.cat(n, 0, 1, 0, 15), BAD));
            calls.add(new Call(22, "cat", x -> x.cat(0, n, 1, 0, 15), BAD));
            calls.add(new Call(22, "cat", x -> x.cat(8, 8, 1, 1, n), BAD));
            calls.add(new Call(23, "seen", x -> x.seen(n, 0), BAD));
            calls.add(new Call(23, "seen", x -> x.seen(0, n), BAD));
            calls.add(new Call(24, "back", x -> x.back(n, 0), BAD));
            calls.add(new Call(24, "back", x -> x.back(0, n), BAD));
            calls.add(new Call(26, "harm", x -> x.harm(n), BAD));
            calls.add(new Call(31, "heap", x -> x.heap(n), BAD));
        }
        for (int n : new int[] {LEAST, -2, 2, MOST}) {
            calls.add(new Call(22, "cat", x -> x.cat(8, 8, n, 1, 3), BAD));
            calls.add(new Call(22, "cat", x -> x.cat(8, 8, 1, n, 3), BAD));
        }
        calls.add(new Call(22, "cat", x -> x.cat(8, 8, 0, 0, 3), BAD));
        calls.add(new Call(26, "harm", x -> x.harm(4), BAD));
    }

    private static void refusedSheets(List<Call> calls) {
        for (int n : new int[] {LEAST, -1, 4, MOST}) {
            calls.add(new Call(32, "sheet", x -> x.sheet(n, 0, 1), BAD));
            calls.add(new Call(33, "drop", x -> x.drop(n), BAD));
            calls.add(new Call(34, "item", x -> x.item(n, 0, 0, 1), BAD));
            calls.add(new Call(35, "show", x -> x.show(n, 0, 0, 0, 1), BAD));
            calls.add(new Call(36, "keep", x -> x.keep(n, 0, 0, 0, 1), BAD));
        }
        for (int s = 0; s < 4; s++) {
            int sheet = s;
            for (int n : new int[] {LEAST, -1, 3, MOST}) {
                calls.add(new Call(32, "sheet", x -> x.sheet(sheet, n, 1), BAD));
                calls.add(new Call(34, "item", x -> x.item(sheet, n, 0, 1), BAD));
                calls.add(new Call(35, "show", x -> x.show(sheet, n, 0, 0, 1), BAD));
                calls.add(new Call(36, "keep", x -> x.keep(sheet, n, 0, 0, 1), BAD));
            }
            for (int lane = 0; lane < 3; lane++) {
                int l = lane;
                calls.add(new Call(32, "sheet", x -> x.sheet(sheet, l, 257), BAD));
                calls.add(new Call(32, "sheet", x -> x.sheet(sheet, l, MOST), BAD));
                calls.add(new Call(32, "sheet", x -> x.sheet(sheet, l, -1), SIZE));
                calls.add(new Call(32, "sheet", x -> x.sheet(sheet, l, LEAST), SIZE));
                for (int[] w : new int[][] {{-1, 1}, {257, 0}, {256, 1}, {255, 2}, {0, 257}, {0, -1}, {MOST, MOST}, {1, LEAST}}) {
                    calls.add(new Call(35, "show", x -> x.show(sheet, l, 0, w[0], w[1]), BAD));
                    calls.add(new Call(36, "keep", x -> x.keep(sheet, l, 0, w[0], w[1]), BAD));
                }
            }
        }
    }

    private static List<Call> refusedAtFirst() {
        List<Call> calls = new ArrayList<>();
        calls.add(new Call(7, "undo", SandPalace::undo, NOT));
        calls.add(new Call(8, "told", x -> x.told(0, 0), BAD));
        calls.add(new Call(14, "hem", x -> x.hem(0, 1, true), BAD));
        calls.add(new Call(18, "day", x -> x.day(0), BAD));
        calls.add(new Call(19, "poured", x -> x.poured(0), BAD));
        calls.add(new Call(24, "back", x -> x.back(0, 0), NOT));
        for (int s = 0; s < 4; s++) {
            int sheet = s;
            calls.add(new Call(33, "drop", x -> x.drop(sheet), NULL));
            calls.add(new Call(34, "item", x -> x.item(sheet, 0, 0, 1), NULL));
            calls.add(new Call(35, "show", x -> x.show(sheet, 1, 0, 0, 1), NULL));
            calls.add(new Call(36, "keep", x -> x.keep(sheet, 2, 0, 0, 1), NULL));
        }
        return calls;
    }

    private static List<Call> refusedWithSome() {
        List<Call> calls = new ArrayList<>();
        calls.add(new Call(8, "told", x -> x.told(5, 0), BAD));
        calls.add(new Call(8, "told", x -> x.told(4, 5), BAD));
        calls.add(new Call(9, "step", x -> x.step(4), CAST));
        calls.add(new Call(10, "quarter", x -> x.quarter(0), CAST));
        calls.add(new Call(14, "hem", x -> x.hem(5, 0, true), BAD));
        calls.add(new Call(14, "hem", x -> x.hem(0, 5, true), BAD));
        calls.add(new Call(15, "after", x -> x.after(0, 5), BAD));
        calls.add(new Call(18, "day", x -> x.day(5), BAD));
        calls.add(new Call(19, "poured", x -> x.poured(5), BAD));
        calls.add(new Call(24, "back", x -> x.back(0, 0), NOT));
        calls.add(new Call(33, "drop", x -> x.drop(3), NULL));
        for (int lane = 0; lane < 3; lane++) {
            int l = lane;
            calls.add(new Call(34, "item", x -> x.item(3, l, 0, 1), NULL));
            calls.add(new Call(35, "show", x -> x.show(3, l, 0, 0, 1), NULL));
            calls.add(new Call(36, "keep", x -> x.keep(3, l, 0, 0, 1), NULL));
            for (int other = 0; other < 3; other++) {
                int as = other;
                if (as != l) {
                    calls.add(new Call(34, "item", x -> x.item(l, as, 0, 1), CAST));
                    calls.add(new Call(35, "show", x -> x.show(l, as, 0, 0, 0), CAST));
                    calls.add(new Call(36, "keep", x -> x.keep(l, as, 0, 0, 1), CAST));
                }
            }
        }
        int[] lengths = {6, 256, 0};
        for (int lane = 0; lane < 3; lane++) {
            int l = lane;
            int length = lengths[lane];
            for (int i : new int[] {LEAST, -1, length, length + 1, MOST}) {
                calls.add(new Call(34, "item", x -> x.item(l, l, i, 1), INDEX));
                calls.add(new Call(35, "show", x -> x.show(l, l, i, 9, 1), INDEX));
                calls.add(new Call(36, "keep", x -> x.keep(l, l, i, 9, 1), INDEX));
            }
            calls.add(new Call(35, "show", x -> x.show(l, l, 1, 0, length), INDEX));
            calls.add(new Call(36, "keep", x -> x.keep(l, l, 1, 0, length), INDEX));
        }
        return calls;
    }

    private static List<Call> refusedWithAll() {
        List<Call> calls = new ArrayList<>();
        calls.add(new Call(2, "disc", x -> x.disc(1, 450), FULL));
        calls.add(new Call(3, "rim", x -> x.rim(1, 7), FULL));
        calls.add(new Call(4, "line", x -> x.line(1, 0, 0, 7, 7), FULL));
        calls.add(new Call(5, "block", x -> x.block(1, 0, 0, 7, 7), FULL));
        calls.add(new Call(6, "sign", x -> x.sign(1, 0, 0, 7, 7, 1), FULL));
        calls.add(new Call(9, "step", x -> x.step(9), CAST));
        calls.add(new Call(17, "days", SandPalace::days, NONE));
        for (int i : new int[] {0, 9, 10, MOST}) {
            calls.add(new Call(18, "day", x -> x.day(i), NONE));
            calls.add(new Call(19, "poured", x -> x.poured(i), NONE));
            calls.add(new Call(30, "wayAt", x -> x.wayAt(3, i), NONE));
        }
        calls.add(new Call(24, "back", x -> x.back(0, 0), Edges.LOST));
        for (int gate = 0; gate < 4; gate++) {
            int g = gate;
            calls.add(new Call(29, "way", x -> x.way(g), NONE));
            calls.add(new Call(34, "item", x -> x.item(g, g % 3, 256, 1), INDEX));
            calls.add(new Call(35, "show", x -> x.show(g, g % 3, 1, 0, 256), INDEX));
            calls.add(new Call(36, "keep", x -> x.keep(g, g % 3, 1, 0, 256), INDEX));
            calls.add(new Call(36, "keep", x -> x.keep(g, (g + 1) % 3, 0, 0, 256), CAST));
        }
        return calls;
    }

    private static void changesNothing(String what, Supplier<SandPalace> made, List<Call> always, List<Call> here) {
        int[] whole = Whole.of(made);
        List<Call> calls = new ArrayList<>(always);
        calls.addAll(here);
        for (Call call : calls) {
            DUE.is(call.promise, what + ": " + call.name, call.answer.applyAsInt(made.get()), call.due);
            int[] behind = Whole.of(() -> {
                SandPalace x = made.get();
                call.answer.applyAsInt(x);
                return x;
            });
            DUE.is(call.promise, what + ": changed by a refused " + call.name, Arrays.mismatch(whole, behind), -1);
        }
    }

    /** A row of which one item is no COLOUR: the first, one between, the last. */
    private static SandPalace withWrongItem(SandPalace x, int i) {
        x.sheet(0, 0, 256);
        for (int other = 0; other < 20; other++) {
            x.item(0, 0, 12 * other, 1 + other % 9);
        }
        x.item(0, 0, i, 10);
        return x;
    }

    private static void showNotChangesNothing(String what, Supplier<SandPalace> made) {
        for (int i : new int[] {0, 100, 255}) {
            List<Call> show = List.of(new Call(35, "show", x -> x.show(0, 0, 0, 0, 256), NOT));
            changesNothing(what + ", item " + i + " wrong", () -> withWrongItem(made.get(), i), show, List.of());
        }
    }
}
