/** Each promise by hand: ordinary calls, the edges that the document names, what is refused and in which order. */
public final class PromisesTest {
    private static final int BAD = -1, NOT = -2, FULL = -3, NONE = -4, LOST = -5, QUARREL = -6;
    private static final int NULL = -11, CAST = -12, INDEX = -13, SIZE = -14;
    private static final int LEAST = Integer.MIN_VALUE, MOST = Integer.MAX_VALUE;

    private static final Due DUE = new Due();

    private PromisesTest() {
    }

    public static void main(String[] args) {
        newObject();
        disc();
        rim();
        line();
        block();
        sign();
        fullBehindBad();
        undo();
        told();
        stepAndQuarter();
        cell();
        countAndUnlike();
        hemAndAfter();
        sand();
        plan();
        planByReach();
        planManyApart();
        planInward();
        planTen();
        planNone();
        poured();
        photoAndSmear();
        cat();
        back();
        mend();
        mendBare();
        harm();
        harmInTheMiddle();
        again();
        againDownward();
        bar();
        way();
        heap();
        sheetAndDrop();
        item();
        show();
        keep();
        DUE.end();
    }

    private static void newObject() {
        SandPalace x = new SandPalace();
        DUE.is(1, "count(0)", x.count(0), 256);
        DUE.is(1, "unlike()", x.unlike(), 0);
        DUE.is(1, "undo()", x.undo(), NOT);
        DUE.is(1, "days()", x.days(), 0);
        DUE.is(1, "sand(128)", x.sand(128), 128);
        DUE.is(1, "bar(0)", x.bar(0), 0);
        DUE.is(1, "again()", x.again(), 0);
        for (int cell = 0; cell < 256; cell++) {
            DUE.is(1, "seen", x.seen(cell % 16, cell / 16), 0);
        }
        for (int what = 0; what < 4; what++) {
            DUE.is(1, "harm", x.harm(what), 0);
            DUE.is(1, "drop", x.drop(what), NULL);
        }
    }

    private static void disc() {
        SandPalace x = new SandPalace();
        DUE.is(2, "disc(1, 1)", x.disc(1, 1), 0);
        DUE.is(2, "told(0, 2)", x.told(0, 2), 0);
        DUE.is(2, "disc(2, 2)", x.disc(2, 2), 1);
        DUE.is(2, "told(1, 2)", x.told(1, 2), 4);
        DUE.is(2, "disc(3, 9)", x.disc(3, 9), 2);
        DUE.is(2, "told(2, 2)", x.told(2, 2), 4);
        DUE.is(2, "disc(4, 10)", x.disc(4, 10), 3);
        DUE.is(2, "told(3, 2)", x.told(3, 2), 12);
        DUE.is(2, "disc(9, 449)", x.disc(9, 449), 4);
        DUE.is(2, "told(4, 2)", x.told(4, 2), 252);
        DUE.is(2, "disc(9, 450)", x.disc(9, 450), 5);
        DUE.is(2, "told(5, 2)", x.told(5, 2), 256);
        for (int wrong : new int[] {LEAST, -1, 0, 10, MOST}) {
            DUE.is(2, "disc colour", x.disc(wrong, 5), BAD);
        }
        for (int wrong : new int[] {LEAST, -1, 0, 451, MOST}) {
            DUE.is(2, "disc n", x.disc(5, wrong), BAD);
        }
        DUE.is(2, "disc(1, 2)", x.disc(1, 2), 6);
    }

    private static void rim() {
        SandPalace x = new SandPalace();
        for (int k = 0; k < 8; k++) {
            DUE.is(3, "rim", x.rim(1 + k, k), k);
            DUE.is(3, "told SIZE", x.told(k, 2), 8 * k + 4);
            DUE.is(3, "told REACH", x.told(k, 3), k);
        }
        DUE.is(3, "cell(0, 9)", x.cell(0, 9, 2), 1 << 7);
        DUE.is(3, "cell(7, 8)", x.cell(7, 8, 2), 1);
        DUE.is(3, "cell(5, 9)", x.cell(5, 9, 2), 1 << 2);
        DUE.is(3, "count(0)", x.count(0), 0);
        for (int wrong : new int[] {LEAST, -1, 8, MOST}) {
            DUE.is(3, "rim k", x.rim(1, wrong), BAD);
        }
        DUE.is(3, "rim(0, 1)", x.rim(0, 1), BAD);
        DUE.is(3, "rim(10, 1)", x.rim(10, 1), BAD);
    }

    /** From 0, 0 to 7, 3 by hand: v is 3 u / 7, the nearest; so 0 0 1 1 2 2 3 3. */
    private static void line() {
        SandPalace x = new SandPalace();
        DUE.is(4, "line(5, 0, 0, 7, 3)", x.line(5, 0, 0, 7, 3), 0);
        int[] rows = {0, 0, 1, 1, 2, 2, 3, 3};
        for (int u = 0; u < 8; u++) {
            for (int v = 0; v < 8; v++) {
                int here = rows[u] == v ? 1 : 0;
                DUE.is(4, "of QUARTER 0", x.cell(8 + u, 8 + v, 2), here);
                DUE.is(4, "of QUARTER 1", x.cell(7 - v, 8 + u, 2), here);
                DUE.is(4, "of QUARTER 2", x.cell(7 - u, 7 - v, 2), here);
                DUE.is(4, "of QUARTER 3", x.cell(8 + v, 7 - u, 2), here);
            }
        }
        DUE.is(4, "one place", x.line(1, 7, 7, 7, 7), 1);
        DUE.is(4, "told(1, 2)", x.told(1, 2), 4);
        DUE.is(4, "back to front", x.line(1, 7, 3, 0, 0), 2);
        DUE.is(4, "told(2, 2)", x.told(2, 2), 32);
        DUE.is(4, "upright, back to front", x.line(1, 3, 6, 3, 2), 3);
        DUE.is(4, "told(3, 2)", x.told(3, 2), 20);
        DUE.is(4, "told(3, 3)", x.told(3, 3), 6);
        // at u 1 the string lies half way between v 0 and v 1: both count
        DUE.is(4, "half way", x.line(1, 0, 0, 2, 1), 4);
        DUE.is(4, "told(4, 2)", x.told(4, 2), 16);
        // away from the middle the same string has the same width: by differences, not by sums
        DUE.is(4, "away from the middle", x.line(1, 4, 6, 7, 7), 5);
        DUE.is(4, "told(5, 2)", x.told(5, 2), 16);
        DUE.is(4, "away from the middle, upright", x.line(1, 6, 4, 7, 7), 6);
        DUE.is(4, "told(6, 2)", x.told(6, 2), 16);
        for (int wrong : new int[] {LEAST, -1, 8, MOST}) {
            DUE.is(4, "line a", x.line(1, wrong, 0, 0, 0), BAD);
            DUE.is(4, "line b", x.line(1, 0, wrong, 0, 0), BAD);
            DUE.is(4, "line c", x.line(1, 0, 0, wrong, 0), BAD);
            DUE.is(4, "line d", x.line(1, 0, 0, 0, wrong), BAD);
        }
        DUE.is(4, "line(0, ..)", x.line(0, 0, 0, 0, 0), BAD);
        DUE.is(4, "line(10, ..)", x.line(10, 0, 0, 0, 0), BAD);
    }

    private static void block() {
        SandPalace x = new SandPalace();
        DUE.is(5, "block(7, 5, 6, 3, 7)", x.block(7, 5, 6, 3, 7), 0);
        DUE.is(5, "told(0, 2)", x.told(0, 2), 24);
        DUE.is(5, "cell(11, 14, 0)", x.cell(11, 14, 0), 7);
        DUE.is(5, "cell(13, 15, 0)", x.cell(13, 15, 0), 7);
        DUE.is(5, "cell(10, 14, 0)", x.cell(10, 14, 0), 0);
        DUE.is(5, "cell(11, 13, 0)", x.cell(11, 13, 0), 0);
        DUE.is(5, "cell(1, 11, 0), once TURNED", x.cell(1, 11, 0), 7);
        DUE.is(5, "block(1, 0, 0, 7, 7)", x.block(1, 0, 0, 7, 7), 1);
        DUE.is(5, "count(1)", x.count(1), 256);
        for (int wrong : new int[] {LEAST, -1, 8, MOST}) {
            DUE.is(5, "block a", x.block(1, wrong, 0, 0, 0), BAD);
            DUE.is(5, "block b", x.block(1, 0, wrong, 0, 0), BAD);
            DUE.is(5, "block c", x.block(1, 0, 0, wrong, 0), BAD);
            DUE.is(5, "block d", x.block(1, 0, 0, 0, wrong), BAD);
        }
        DUE.is(5, "block(0, ..)", x.block(0, 0, 0, 0, 0), BAD);
        DUE.is(5, "block(10, ..)", x.block(10, 0, 0, 0, 0), BAD);
    }

    private static void sign() {
        SandPalace x = new SandPalace();
        DUE.is(6, "sign(9, 1, 0, 1, 0, 8)", x.sign(9, 1, 0, 1, 0, 8), 0);
        DUE.is(6, "QUARTER 0", x.cell(9, 8, 0), 9);
        DUE.is(6, "QUARTER 1: 17 - 9", x.cell(7, 9, 0), 8);
        DUE.is(6, "QUARTER 2: 25 - 18", x.cell(6, 7, 0), 7);
        DUE.is(6, "QUARTER 3: 33 - 27", x.cell(8, 6, 0), 6);
        DUE.is(6, "sign(1, 0, 0, 0, 0, 0)", x.sign(1, 0, 0, 0, 0, 0), 1);
        DUE.is(6, "count(1)", x.count(1), 4);
        DUE.is(6, "sign(7, 7, 7, 5, 5, 1)", x.sign(7, 7, 7, 5, 5, 1), 2);
        DUE.is(6, "QUARTER 2: 9", x.cell(0, 0, 0), 9);
        DUE.is(6, "QUARTER 3: 10 - 9", x.cell(15, 0, 0), 1);
        for (int wrong : new int[] {LEAST, -1, 9, MOST}) {
            DUE.is(6, "sign step", x.sign(1, 0, 0, 0, 0, wrong), BAD);
        }
        for (int wrong : new int[] {LEAST, -1, 8, MOST}) {
            DUE.is(6, "sign a", x.sign(1, wrong, 0, 0, 0, 0), BAD);
            DUE.is(6, "sign b", x.sign(1, 0, wrong, 0, 0, 0), BAD);
            DUE.is(6, "sign c", x.sign(1, 0, 0, wrong, 0, 0), BAD);
            DUE.is(6, "sign d", x.sign(1, 0, 0, 0, wrong, 0), BAD);
        }
        DUE.is(6, "sign(0, ..)", x.sign(0, 0, 0, 0, 0, 0), BAD);
        DUE.is(6, "sign(10, ..)", x.sign(10, 0, 0, 0, 0, 0), BAD);
    }

    private static void fullBehindBad() {
        SandPalace x = new SandPalace();
        for (int i = 0; i < 10; i++) {
            DUE.is(2, "disc", x.disc(1, 2), i);
        }
        DUE.is(2, "disc", x.disc(1, 2), FULL);
        DUE.is(3, "rim", x.rim(1, 2), FULL);
        DUE.is(4, "line", x.line(1, 0, 0, 1, 1), FULL);
        DUE.is(5, "block", x.block(1, 0, 0, 1, 1), FULL);
        DUE.is(6, "sign", x.sign(1, 0, 0, 1, 1, 1), FULL);
        DUE.is(2, "disc", x.disc(1, 0), BAD);
        DUE.is(3, "rim", x.rim(0, 2), BAD);
        DUE.is(4, "line", x.line(1, 0, 0, 1, 8), BAD);
        DUE.is(5, "block", x.block(1, 8, 0, 1, 1), BAD);
        DUE.is(6, "sign", x.sign(1, 0, 0, 1, 1, 9), BAD);
        DUE.is(2, "cell", x.cell(8, 8, 2), 1023);
        DUE.is(7, "undo", x.undo(), 9);
        DUE.is(3, "rim", x.rim(1, 2), 9);
    }

    private static void undo() {
        SandPalace x = new SandPalace();
        x.rim(1, 0);
        x.rim(2, 1);
        x.rim(3, 2);
        x.hem(2, 0, true);
        x.hem(0, 2, true);
        x.hem(1, 0, true);
        DUE.is(7, "days() round", x.days(), NONE);
        DUE.is(7, "undo()", x.undo(), 2);
        DUE.is(7, "days()", x.days(), 1);
        DUE.is(7, "told(2, 0)", x.told(2, 0), BAD);
        DUE.is(7, "count(3)", x.count(3), 0);
        DUE.is(7, "rim(3, 2)", x.rim(3, 2), 2);
        DUE.is(7, "after(2, 0)", x.after(2, 0), 0);
        DUE.is(7, "after(0, 2)", x.after(0, 2), 0);
        DUE.is(7, "after(1, 0)", x.after(1, 0), 1);
        DUE.is(7, "hem(2, 0)", x.hem(2, 0, false), 0);
        DUE.is(7, "hem(0, 2)", x.hem(0, 2, false), 0);
        DUE.is(7, "undo()", x.undo(), 2);
        DUE.is(7, "undo()", x.undo(), 1);
        DUE.is(7, "undo()", x.undo(), 0);
        DUE.is(7, "undo()", x.undo(), NOT);
        DUE.is(7, "count(0)", x.count(0), 256);
    }

    private static void told() {
        SandPalace x = new SandPalace();
        x.block(6, 0, 1, 4, 2);
        x.rim(2, 1);
        x.line(3, 0, 0, 0, 5);
        x.rim(4, 7);
        x.hem(2, 3, true);
        x.hem(2, 0, true);
        int[][] due = {{3, 6, 40, 4, 0}, {1, 2, 12, 1, 1}, {2, 3, 24, 5, 3}, {1, 4, 60, 7, 0}};
        for (int s = 0; s < 4; s++) {
            for (int what = 0; what < 5; what++) {
                DUE.is(8, "told(" + s + ", " + what + ")", x.told(s, what), due[s][what]);
            }
        }
        for (int wrong : new int[] {LEAST, -1, 5, MOST}) {
            DUE.is(8, "told what", x.told(0, wrong), BAD);
        }
        for (int wrong : new int[] {LEAST, -1, 4, MOST}) {
            DUE.is(8, "told shape", x.told(wrong, 0), BAD);
        }
    }

    private static void stepAndQuarter() {
        SandPalace x = new SandPalace();
        x.disc(1, 10);
        x.rim(1, 2);
        x.line(1, 0, 0, 3, 3);
        x.block(1, 4, 1, 2, 3);
        x.sign(1, 0, 0, 1, 6, 8);
        for (int s = 0; s < 4; s++) {
            DUE.is(9, "step", x.step(s), CAST);
        }
        DUE.is(9, "step(4)", x.step(4), 8);
        for (int s = 0; s < 3; s++) {
            DUE.is(10, "quarter", x.quarter(s), CAST);
        }
        DUE.is(10, "quarter(3)", x.quarter(3), 9);
        DUE.is(10, "quarter(4)", x.quarter(4), 14);
        for (int wrong : new int[] {LEAST, -1, 5, MOST}) {
            DUE.is(9, "step", x.step(wrong), BAD);
            DUE.is(10, "quarter", x.quarter(wrong), BAD);
        }
    }

    private static void cell() {
        SandPalace x = new SandPalace();
        x.disc(3, 450);
        x.rim(4, 7);
        x.sign(5, 7, 0, 7, 0, 1);
        DUE.is(11, "cell(15, 8, 0)", x.cell(15, 8, 0), 5);
        DUE.is(11, "cell(15, 8, 1)", x.cell(15, 8, 1), 3);
        DUE.is(11, "cell(15, 8, 2)", x.cell(15, 8, 2), 7);
        DUE.is(11, "cell(7, 15, 0)", x.cell(7, 15, 0), 6);
        DUE.is(11, "cell(0, 0, 0)", x.cell(0, 0, 0), 4);
        DUE.is(11, "cell(0, 0, 2)", x.cell(0, 0, 2), 3);
        DUE.is(11, "cell(1, 1, 1)", x.cell(1, 1, 1), 1);
        for (int wrong : new int[] {LEAST, -1, 16, MOST}) {
            DUE.is(11, "cell x", x.cell(wrong, 0, 0), BAD);
            DUE.is(11, "cell y", x.cell(0, wrong, 0), BAD);
        }
        for (int wrong : new int[] {LEAST, -1, 3, MOST}) {
            DUE.is(11, "cell what", x.cell(0, 0, wrong), BAD);
        }
    }

    private static void countAndUnlike() {
        SandPalace x = new SandPalace();
        // 1, 4, 7 and, 10 less 9, 1 again: QUARTER 3 looks like QUARTER 0
        x.sign(1, 0, 0, 1, 0, 3);
        DUE.is(12, "count(1)", x.count(1), 4);
        DUE.is(12, "count(4)", x.count(4), 2);
        DUE.is(12, "count(7)", x.count(7), 2);
        DUE.is(12, "count(9)", x.count(9), 0);
        DUE.is(12, "count(0)", x.count(0), 248);
        DUE.is(13, "unlike()", x.unlike(), 4);
        x.block(2, 0, 0, 0, 0);
        DUE.is(12, "count(1) covered", x.count(1), 2);
        DUE.is(12, "count(2)", x.count(2), 4);
        DUE.is(13, "unlike() covered", x.unlike(), 2);
        x.sign(5, 7, 7, 7, 7, 0);
        DUE.is(13, "unlike() with STEP 0", x.unlike(), 2);
        x.sign(5, 6, 6, 6, 6, 1);
        DUE.is(13, "unlike() with STEP 1: all three", x.unlike(), 2 + 3);
        for (int wrong : new int[] {LEAST, -1, 10, MOST}) {
            DUE.is(12, "count", x.count(wrong), BAD);
        }
    }

    private static void hemAndAfter() {
        SandPalace x = new SandPalace();
        x.rim(1, 5);
        x.rim(2, 3);
        x.line(3, 0, 4, 0, 6);
        DUE.is(15, "after(2, 0): both have a cell", x.after(2, 0), 1);
        DUE.is(15, "after(0, 2): told ahead", x.after(0, 2), 0);
        DUE.is(15, "after(2, 1)", x.after(2, 1), 0);
        DUE.is(14, "hem(0, 1)", x.hem(0, 1, true), 0);
        DUE.is(14, "hem(0, 1)", x.hem(0, 1, true), 1);
        DUE.is(15, "after(0, 1)", x.after(0, 1), 1);
        DUE.is(15, "after(1, 0)", x.after(1, 0), 0);
        DUE.is(15, "after(2, 1): of the SHAPE itself alone", x.after(2, 1), 0);
        DUE.is(14, "hem(2, 0): by a cell is no HEM", x.hem(2, 0, false), 0);
        DUE.is(15, "after(2, 0) still", x.after(2, 0), 1);
        DUE.is(14, "hem(0, 1) no more", x.hem(0, 1, false), 1);
        DUE.is(15, "after(0, 1)", x.after(0, 1), 0);
        DUE.is(14, "hem(0, 1)", x.hem(0, 1, false), 0);
        for (int wrong : new int[] {LEAST, -1, 0, 3, MOST}) {
            DUE.is(14, "hem other", x.hem(0, wrong, true), BAD);
            DUE.is(14, "hem shape", x.hem(wrong, 0, true), BAD);
            DUE.is(15, "after other", x.after(0, wrong), BAD);
            DUE.is(15, "after shape", x.after(wrong, 0), BAD);
        }
    }

    private static void sand() {
        SandPalace x = new SandPalace();
        for (int wrong : new int[] {LEAST, -1, 0, 257, MOST}) {
            DUE.is(16, "sand", x.sand(wrong), BAD);
        }
        DUE.is(16, "sand(1)", x.sand(1), 128);
        DUE.is(16, "sand(256)", x.sand(256), 1);
        DUE.is(16, "sand(256)", x.sand(256), 256);
    }

    /** Three RIMS of 12, 20, 28 and one of 4, none AFTER another: SAND alone tells the DAYS. */
    private static void plan() {
        SandPalace x = new SandPalace();
        x.rim(1, 1);
        x.rim(1, 2);
        x.rim(1, 3);
        x.rim(1, 0);
        DUE.is(17, "days()", x.days(), 1);
        DUE.is(18, "day(0)", x.day(0), 15);
        x.sand(64);
        DUE.is(17, "days() at SAND itself", x.days(), 1);
        x.sand(63);
        DUE.is(17, "days()", x.days(), 2);
        DUE.is(18, "day(0)", x.day(0), 8 + 4 + 2);
        DUE.is(18, "day(1)", x.day(1), 1);
        DUE.is(18, "day(2)", x.day(2), BAD);
        x.sand(32);
        DUE.is(17, "days()", x.days(), 2);
        DUE.is(18, "day(0)", x.day(0), 8 + 4);
        DUE.is(18, "day(1)", x.day(1), 2 + 1);
        x.sand(28);
        DUE.is(17, "days()", x.days(), 3);
        DUE.is(18, "day(0)", x.day(0), 8 + 2);
        DUE.is(18, "day(1)", x.day(1), 4);
        DUE.is(18, "day(2)", x.day(2), 1);
        x.sand(27);
        DUE.is(17, "days()", x.days(), NONE);
        for (int wrong : new int[] {LEAST, -1}) {
            DUE.is(18, "day", x.day(wrong), BAD);
            DUE.is(19, "poured", x.poured(wrong), BAD);
        }
        DUE.is(18, "day(MOST)", x.day(MOST), NONE);
        DUE.is(19, "poured(MOST)", x.poured(MOST), NONE);
        x.sand(28);
        DUE.is(18, "day(MOST)", x.day(MOST), BAD);
        DUE.is(19, "poured(MOST)", x.poured(MOST), BAD);
    }

    private static void planByReach() {
        SandPalace x = new SandPalace();
        x.rim(1, 5);
        x.rim(2, 2);
        DUE.is(17, "days()", x.days(), 1);
        x.hem(1, 0, true);
        DUE.is(17, "a sleeve over wet work", x.days(), 2);
        DUE.is(18, "day(0)", x.day(0), 1);
        DUE.is(18, "day(1)", x.day(1), 2);
        x.hem(1, 0, false);
        x.hem(0, 1, true);
        DUE.is(17, "outward", x.days(), 1);
        DUE.is(19, "poured(0)", x.poured(0), 1);
        DUE.is(19, "poured(1)", x.poured(1), 0);
        // 2 comes AFTER 1 by its cells and is of REACH 2 too; 3 is AFTER 0, which reaches further
        x.line(3, 0, 2, 2, 2);
        x.rim(4, 0);
        x.hem(3, 0, true);
        DUE.is(17, "days()", x.days(), 2);
        DUE.is(18, "day(0)", x.day(0), 7);
        DUE.is(18, "day(1)", x.day(1), 8);
        int[] order = {1, 2, 0, 3};
        for (int i = 0; i < 4; i++) {
            DUE.is(19, "poured", x.poured(i), order[i]);
        }
        DUE.is(19, "poured(4)", x.poured(4), BAD);
    }

    /** 0 reaches far; 1, 2 and 3 come AFTER it, and 4 ahead of none: one DAY for 0 and what may go with it. */
    private static void planManyApart() {
        SandPalace x = new SandPalace();
        x.rim(1, 4);
        x.rim(1, 3);
        x.rim(1, 2);
        x.rim(1, 1);
        x.rim(1, 0);
        x.sand(256);
        x.hem(1, 0, true);
        x.hem(2, 0, true);
        x.hem(3, 0, true);
        DUE.is(17, "days()", x.days(), 2);
        DUE.is(18, "day(0)", x.day(0), 16 + 1);
        DUE.is(18, "day(1)", x.day(1), 8 + 4 + 2);
        x.hem(3, 1, true);
        x.hem(3, 2, true);
        x.hem(2, 1, true);
        DUE.is(17, "one behind the other", x.days(), 4);
        int[] days = {16 + 1, 2, 4, 8};
        int[] order = {4, 0, 1, 2, 3};
        for (int i = 0; i < 4; i++) {
            DUE.is(18, "day(" + i + ")", x.day(i), days[i]);
        }
        for (int i = 0; i < 5; i++) {
            DUE.is(19, "poured(" + i + ")", x.poured(i), order[i]);
        }
    }

    /** HEMS from SHAPES told ahead to SHAPES told behind, inward: no two of a HEM on one DAY. */
    private static void planInward() {
        SandPalace x = new SandPalace();
        x.rim(1, 0);
        x.rim(1, 3);
        x.rim(1, 4);
        x.hem(0, 1, true);
        x.hem(0, 2, true);
        DUE.is(17, "days()", x.days(), 2);
        DUE.is(18, "day(0)", x.day(0), 6);
        x.sand(40);
        DUE.is(17, "0 goes with neither", x.days(), 3);
        DUE.is(18, "day(0)", x.day(0), 4);
        DUE.is(18, "day(1)", x.day(1), 2);
        DUE.is(18, "day(2)", x.day(2), 1);
        SandPalace y = new SandPalace();
        y.rim(1, 3);
        y.rim(1, 5);
        y.rim(1, 1);
        y.hem(0, 1, true);
        y.hem(2, 0, true);
        DUE.is(17, "days()", y.days(), 3);
        int[] order = {1, 0, 2};
        for (int i = 0; i < 3; i++) {
            DUE.is(18, "day(" + i + ")", y.day(i), 1 << order[i]);
            DUE.is(19, "poured(" + i + ")", y.poured(i), order[i]);
        }
    }

    /** Ten of 4 cells each, side by side: the most SHAPES, and the most DAYS. */
    private static void planTen() {
        SandPalace x = new SandPalace();
        for (int s = 0; s < 10; s++) {
            x.block(1, s % 8, s / 8, s % 8, s / 8);
        }
        DUE.is(17, "days()", x.days(), 1);
        DUE.is(18, "day(0)", x.day(0), 1023);
        int[] byReach = {0, 1, 8, 9, 2, 3, 4, 5, 6, 7};
        for (int i = 0; i < 10; i++) {
            DUE.is(19, "poured(" + i + ")", x.poured(i), byReach[i]);
        }
        DUE.is(19, "poured(10)", x.poured(10), BAD);
        x.sand(4);
        DUE.is(17, "days()", x.days(), 10);
        for (int i = 0; i < 10; i++) {
            DUE.is(18, "day(" + i + ")", x.day(i), 1 << 9 - i);
            DUE.is(19, "poured(" + i + ")", x.poured(i), 9 - i);
        }
        DUE.is(18, "day(10)", x.day(10), BAD);
        x.sand(12);
        DUE.is(17, "days()", x.days(), 4);
        int[] threes = {896, 112, 14, 1};
        for (int i = 0; i < 4; i++) {
            DUE.is(18, "day(" + i + ")", x.day(i), threes[i]);
        }
        x.sand(3);
        DUE.is(17, "days()", x.days(), NONE);
    }

    private static void planNone() {
        SandPalace x = new SandPalace();
        x.rim(1, 3);
        x.line(2, 3, 0, 3, 1);
        x.rim(3, 5);
        x.hem(0, 1, true);
        DUE.is(17, "a HEM against the cells", x.days(), NONE);
        DUE.is(18, "day(0)", x.day(0), NONE);
        DUE.is(19, "poured(0)", x.poured(0), NONE);
        x.hem(0, 1, false);
        DUE.is(17, "days()", x.days(), 1);
        x.hem(0, 2, true);
        DUE.is(17, "days()", x.days(), 2);
        x.hem(2, 1, true);
        DUE.is(17, "round by three", x.days(), NONE);
        x.hem(0, 2, false);
        DUE.is(17, "days()", x.days(), 1);
        DUE.is(17, "a shape above SAND", x.disc(1, 450) + x.days(), 3 + NONE);
        x.sand(256);
        DUE.is(17, "days()", x.days(), 2);
        x.sand(255);
        DUE.is(18, "day(0)", x.day(0), NONE);
        SandPalace y = new SandPalace();
        y.block(1, 0, 0, 7, 7);
        y.rim(1, 0);
        DUE.is(17, "the first SHAPE above SAND", y.days(), NONE);
    }

    private static void poured() {
        SandPalace x = new SandPalace();
        x.line(1, 4, 0, 4, 0);
        x.line(1, 4, 1, 4, 1);
        x.line(1, 4, 2, 4, 2);
        x.line(1, 1, 0, 1, 0);
        x.line(1, 4, 3, 4, 3);
        x.hem(0, 2, true);
        x.hem(2, 4, true);
        DUE.is(17, "days()", x.days(), 1);
        int[] order = {3, 1, 4, 2, 0};
        for (int i = 0; i < 5; i++) {
            DUE.is(19, "poured", x.poured(i), order[i]);
        }
        x.sand(16);
        DUE.is(17, "days()", x.days(), 2);
        DUE.is(18, "day(0)", x.day(0), 16 + 8 + 4 + 2);
        int[] later = {3, 1, 4, 2, 0};
        for (int i = 0; i < 5; i++) {
            DUE.is(19, "poured", x.poured(i), later[i]);
        }
        DUE.is(19, "poured(5)", x.poured(5), BAD);
        DUE.is(19, "poured(-1)", x.poured(-1), BAD);
        DUE.is(19, "of nothing", new SandPalace().poured(0), BAD);
        DUE.is(18, "of nothing", new SandPalace().day(0), BAD);
    }

    private static void photoAndSmear() {
        SandPalace x = new SandPalace();
        x.rim(3, 7);
        DUE.is(23, "seen(0, 0) ahead of the PHOTO", x.seen(0, 0), 0);
        DUE.is(20, "photo()", x.photo(), 60);
        DUE.is(23, "seen(0, 0)", x.seen(0, 0), 3);
        DUE.is(21, "smear(0, 0)", x.smear(0, 0), 3);
        DUE.is(21, "smear(1, 1)", x.smear(1, 1), 0);
        DUE.is(21, "smear(0, 0)", x.smear(0, 0), -5);
        DUE.is(23, "seen(0, 0)", x.seen(0, 0), -5);
        x.undo();
        DUE.is(23, "seen(15, 0): the PHOTO stays", x.seen(15, 0), 3);
        DUE.is(20, "photo()", x.photo(), 0);
        DUE.is(23, "seen(0, 0)", x.seen(0, 0), 0);
        DUE.is(26, "harm(0)", x.harm(0), 0);
        x.sign(8, 5, 2, 5, 2, 2);
        DUE.is(20, "photo()", x.photo(), 4);
        DUE.is(23, "QUARTER 0", x.seen(13, 10), 8);
        DUE.is(23, "QUARTER 1", x.seen(5, 13), 1);
        DUE.is(23, "QUARTER 2", x.seen(2, 5), 3);
        DUE.is(23, "QUARTER 3", x.seen(10, 2), 5);
        for (int wrong : new int[] {LEAST, -1, 16, MOST}) {
            DUE.is(21, "smear x", x.smear(wrong, 0), BAD);
            DUE.is(21, "smear y", x.smear(0, wrong), BAD);
            DUE.is(23, "seen x", x.seen(wrong, 0), BAD);
            DUE.is(23, "seen y", x.seen(0, wrong), BAD);
        }
        DUE.is(26, "harm(0)", x.harm(0), 0);
    }

    private static void cat() {
        SandPalace x = new SandPalace();
        DUE.is(22, "its own cell", x.cat(4, 4, 0, 1, 0), 1);
        DUE.is(22, "again", x.cat(4, 4, 1, 0, 0), 0);
        DUE.is(22, "three on", x.cat(4, 4, -1, 1, 3), 3);
        DUE.is(23, "seen(1, 7)", x.seen(1, 7), -5);
        DUE.is(23, "seen(0, 8)", x.seen(0, 8), 0);
        DUE.is(22, "to the wall", x.cat(14, 9, 1, -1, 15), 2);
        DUE.is(23, "seen(15, 8)", x.seen(15, 8), -5);
        DUE.is(22, "all along", x.cat(15, 15, -1, 0, 15), 16);
        DUE.is(26, "harm(0)", x.harm(0), 22);
        int[][] wrong = {{-1, 0, 1, 0, 1}, {16, 0, 1, 0, 1}, {0, -1, 1, 0, 1}, {0, 16, 1, 0, 1}, {0, 0, 2, 0, 1}, {0, 0, -2, 0, 1},
            {0, 0, 0, 2, 1}, {0, 0, 0, -2, 1}, {0, 0, 0, 0, 1}, {0, 0, 1, 0, -1}, {0, 0, 1, 0, 16}, {MOST, 0, 1, 0, 1},
            {0, LEAST, 1, 0, 1}, {0, 0, MOST, 0, 1}, {0, 0, 1, LEAST, 1}, {0, 0, 1, 1, MOST}, {0, 0, 1, 1, LEAST}};
        for (int[] w : wrong) {
            DUE.is(22, "cat", x.cat(w[0], w[1], w[2], w[3], w[4]), BAD);
        }
        DUE.is(26, "harm(0)", x.harm(0), 22);
    }

    private static void back() {
        SandPalace x = new SandPalace();
        x.rim(4, 0);
        x.photo();
        DUE.is(24, "not SMEARED", x.back(8, 8), NOT);
        x.smear(8, 8);
        DUE.is(24, "by three", x.back(8, 8), 4);
        x.smear(7, 8);
        x.smear(7, 7);
        DUE.is(24, "by one", x.back(7, 7), 4);
        x.smear(8, 7);
        DUE.is(24, "by none", x.back(7, 7), LOST);
        for (int wrong : new int[] {LEAST, -1, 16, MOST}) {
            DUE.is(24, "back x", x.back(wrong, 0), BAD);
            DUE.is(24, "back y", x.back(0, wrong), BAD);
        }
        SandPalace y = new SandPalace();
        y.sign(9, 0, 0, 0, 0, 2);
        y.photo();
        y.smear(7, 7);
        DUE.is(24, "QUARTER 2 of a SIGN: 13 - 9", y.back(7, 7), 4);
        y.smear(8, 8);
        y.smear(7, 8);
        DUE.is(24, "from QUARTER 3 (6) to 0", y.back(8, 8), 9);
        DUE.is(24, "from QUARTER 3 (6) to 1", y.back(7, 8), 2);
        y.sign(9, 0, 0, 0, 0, 1);
        DUE.is(24, "by the last SIGN: 6 - 3", y.back(8, 8), 3);
        y.block(1, 0, 0, 0, 0);
        DUE.is(24, "also below a BLOCK", y.back(8, 8), 3);
        y.undo();
        y.undo();
        y.undo();
        DUE.is(24, "by the picture as it is", y.back(8, 8), 6);
        y.smear(8, 7);
        y.photo();
        y.sign(9, 0, 0, 0, 0, 2);
        y.smear(8, 8);
        DUE.is(24, "bare stays bare", y.back(8, 8), 0);
        y.sheet(0, 0, 1);
        y.item(0, 0, 0, 5);
        y.show(0, 0, 0, 16 * 7 + 7, 1);
        DUE.is(24, "unlike", y.back(8, 8), QUARREL);
    }

    /** By what was not SMEARED ahead: two of a place are mended by the other two, none by the other. */
    private static void mend() {
        SandPalace x = new SandPalace();
        x.sign(1, 0, 0, 1, 1, 4);
        x.photo();
        x.smear(8, 8);
        x.smear(7, 8);
        x.smear(7, 7);
        x.cat(0, 0, 1, 0, 15);
        x.cat(0, 0, 0, 1, 15);
        x.cat(15, 15, -1, 0, 15);
        x.cat(15, 15, 0, -1, 15);
        DUE.is(25, "harm(2): the rim is LOST", x.harm(2), 60);
        DUE.is(25, "mend()", x.mend(), 3);
        DUE.is(25, "seen(8, 8)", x.seen(8, 8), 1);
        DUE.is(25, "seen(7, 8)", x.seen(7, 8), 5);
        DUE.is(25, "seen(7, 7)", x.seen(7, 7), 9);
        DUE.is(25, "harm(0)", x.harm(0), 60);
        DUE.is(25, "mend()", x.mend(), 0);
        // QUARTERS 2 and 3 quarrel for 0 and 1, so that nothing of this place is told
        x.photo();
        x.sheet(0, 2, 1);
        x.item(0, 2, 0, 3);
        x.show(0, 2, 0, 16 * 7 + 7, 1);
        x.smear(8, 8);
        x.smear(7, 8);
        DUE.is(25, "mend() in QUARREL", x.mend(), 0);
        DUE.is(25, "harm(3)", x.harm(3), 2);
        DUE.is(25, "harm(0)", x.harm(0), 2);
        // by the last one alone 0 and 1 are alike; were 0 mended first, it would be the same, but 2 would quarrel
        x.smear(7, 7);
        DUE.is(25, "mend()", x.mend(), 3);
        DUE.is(25, "seen(7, 7)", x.seen(7, 7), 9);
    }

    private static void mendBare() {
        SandPalace x = new SandPalace();
        x.smear(3, 4);
        DUE.is(25, "a bare cell", x.mend(), 1);
        DUE.is(25, "seen(3, 4)", x.seen(3, 4), 0);
        DUE.is(25, "harm(0)", x.harm(0), 0);
    }

    private static void harm() {
        SandPalace x = new SandPalace();
        x.rim(2, 7);
        DUE.is(26, "OFF: the PHOTO is older", x.harm(1), 60);
        x.smear(0, 0);
        DUE.is(26, "SMEARED is not OFF", x.harm(1), 59);
        DUE.is(26, "harm(0)", x.harm(0), 1);
        x.photo();
        DUE.is(26, "harm(1)", x.harm(1), 0);
        x.smear(0, 0);
        x.smear(15, 0);
        x.smear(0, 15);
        DUE.is(26, "harm(2)", x.harm(2), 0);
        x.smear(15, 15);
        DUE.is(26, "harm(2)", x.harm(2), 4);
        x.smear(1, 0);
        x.sheet(1, 0, 1);
        x.show(1, 0, 0, 16 * 15 + 14, 1);
        DUE.is(26, "harm(3)", x.harm(3), 1);
        DUE.is(26, "harm(1)", x.harm(1), 1);
        DUE.is(26, "harm(0)", x.harm(0), 5);
        for (int wrong : new int[] {LEAST, -1, 4, MOST}) {
            DUE.is(26, "harm", x.harm(wrong), BAD);
        }
    }

    private static void harmInTheMiddle() {
        SandPalace x = new SandPalace();
        x.rim(5, 0);
        DUE.is(26, "OFF", x.harm(1), 4);
        x.smear(8, 8);
        x.smear(7, 8);
        x.smear(7, 7);
        x.smear(8, 7);
        DUE.is(26, "LOST", x.harm(2), 4);
        DUE.is(26, "OFF", x.harm(1), 0);
    }

    private static void again() {
        SandPalace x = new SandPalace();
        x.rim(1, 1);
        x.rim(2, 3);
        x.rim(3, 5);
        x.rim(4, 7);
        x.line(5, 0, 5, 0, 7);
        DUE.is(27, "again()", x.again(), 0);
        x.smear(6, 6);
        DUE.is(27, "one", x.again(), 1);
        x.smear(5, 5);
        DUE.is(27, "bare ground", x.again(), 1);
        x.hem(1, 0, true);
        DUE.is(27, "by a HEM", x.again(), 3);
        x.hem(3, 1, true);
        DUE.is(27, "on and on: 3, then 4 by its cell", x.again(), 1 + 2 + 8 + 16);
        x.hem(2, 4, true);
        DUE.is(27, "back to one told ahead", x.again(), 31);
        x.hem(3, 1, false);
        DUE.is(27, "cut", x.again(), 3);
        x.photo();
        DUE.is(27, "again()", x.again(), 0);
        x.hem(2, 4, false);
        x.smear(0, 0);
        DUE.is(27, "a corner: 3, then 4", x.again(), 8 + 16);
        x.smear(4, 4);
        DUE.is(27, "and 1, that has no cell of these", x.again(), 8 + 16 + 2);
        x.smear(13, 8);
        DUE.is(27, "and 2", x.again(), 8 + 16 + 2 + 4);
    }

    /** Each HEM leads to the SHAPE told ahead, so that the last of them is found last. */
    private static void againDownward() {
        SandPalace x = new SandPalace();
        for (int k = 0; k < 8; k++) {
            x.rim(1, k);
        }
        for (int s = 0; s < 7; s++) {
            x.hem(s, s + 1, true);
        }
        x.smear(0, 0);
        DUE.is(27, "all eight", x.again(), 255);
        x.photo();
        x.smear(4, 4);
        DUE.is(27, "0 to 3", x.again(), 15);
    }

    private static void bar() {
        SandPalace x = new SandPalace();
        DUE.is(28, "bar(5)", x.bar(5), 0);
        for (int wrong : new int[] {LEAST, -1, 65536, MOST}) {
            DUE.is(28, "bar", x.bar(wrong), BAD);
        }
        DUE.is(28, "bar(65535)", x.bar(65535), 5);
        DUE.is(28, "bar(0)", x.bar(0), 65535);
    }

    private static void way() {
        SandPalace x = new SandPalace();
        int[] gates = {1, 7, 14, 8};
        for (int gate = 0; gate < 4; gate++) {
            DUE.is(29, "way", x.way(gate), 16);
            DUE.is(30, "wayAt", x.wayAt(gate, 0), gates[gate]);
            DUE.is(30, "wayAt", x.wayAt(gate, 16), BAD);
        }
        int[] open = {8, 4, 0, 1, 2, 3, 7, 6, 5, 9, 10, 11, 15, 14, 13, 12};
        for (int i = 0; i < 16; i++) {
            DUE.is(30, "wayAt(3, " + i + ")", x.wayAt(3, i), open[i]);
        }
        x.bar(65535 - (1 << 7) - (1 << 3) - (1 << 2));
        DUE.is(29, "way(1)", x.way(1), 3);
        DUE.is(30, "wayAt(1, 1)", x.wayAt(1, 1), 3);
        DUE.is(30, "wayAt(1, 2)", x.wayAt(1, 2), 2);
        DUE.is(30, "wayAt(1, 3)", x.wayAt(1, 3), BAD);
        DUE.is(29, "way(0): BARRED", x.way(0), NONE);
        DUE.is(30, "wayAt(0, 0)", x.wayAt(0, 0), NONE);
        // fields 3 and 4 are neighbours by number, not side by side
        x.bar(65535 - (1 << 7) - (1 << 3) - (1 << 4));
        DUE.is(29, "way(1)", x.way(1), NONE);
        x.bar(65535 - (1 << 7) - (1 << 8));
        DUE.is(29, "way(1)", x.way(1), NONE);
        DUE.is(29, "way(3)", x.way(3), NONE);
        for (int wrong : new int[] {LEAST, -1, 4, MOST}) {
            DUE.is(29, "way", x.way(wrong), BAD);
            DUE.is(30, "wayAt gate", x.wayAt(wrong, 0), BAD);
        }
        DUE.is(30, "wayAt(1, -1)", x.wayAt(1, -1), BAD);
        DUE.is(30, "wayAt(1, MOST)", x.wayAt(1, MOST), NONE);
        x.bar(0);
        DUE.is(29, "way(1)", x.way(1), 16);
        DUE.is(30, "wayAt(1, MOST)", x.wayAt(1, MOST), BAD);
        DUE.is(30, "wayAt(1, LEAST)", x.wayAt(1, LEAST), BAD);
    }

    private static void heap() {
        SandPalace x = new SandPalace();
        x.block(1, 7, 0, 7, 0);
        x.block(1, 4, 0, 7, 1);
        int[] due = {0, 0, 9, 0, 9, 0, 0, 0, 0, 0, 0, 9, 0, 9, 0, 0};
        for (int f = 0; f < 16; f++) {
            DUE.is(31, "heap(" + f + ")", x.heap(f), due[f]);
        }
        for (int wrong : new int[] {LEAST, -1, 16, MOST}) {
            DUE.is(31, "heap", x.heap(wrong), BAD);
        }
    }

    private static void sheetAndDrop() {
        SandPalace x = new SandPalace();
        DUE.is(32, "sheet(3, 2, 256)", x.sheet(3, 2, 256), 256);
        DUE.is(32, "sheet(0, 0, 0)", x.sheet(0, 0, 0), 0);
        DUE.is(33, "drop(0) of no items", x.drop(0), 0);
        DUE.is(33, "drop(0)", x.drop(0), NULL);
        DUE.is(33, "drop(3)", x.drop(3), 256);
        DUE.is(33, "drop(3)", x.drop(3), NULL);
        for (int wrong : new int[] {LEAST, -1, 4, MOST}) {
            DUE.is(32, "sheet sheet", x.sheet(wrong, 0, -1), BAD);
            DUE.is(33, "drop", x.drop(wrong), BAD);
        }
        for (int wrong : new int[] {LEAST, -1, 3, MOST}) {
            DUE.is(32, "sheet lane", x.sheet(0, wrong, -1), BAD);
        }
        DUE.is(32, "sheet(0, 0, 257)", x.sheet(0, 0, 257), BAD);
        DUE.is(32, "sheet(0, 0, MOST)", x.sheet(0, 0, MOST), BAD);
        DUE.is(32, "sheet(0, 0, -1)", x.sheet(0, 0, -1), SIZE);
        DUE.is(32, "sheet(0, 0, LEAST)", x.sheet(0, 0, LEAST), SIZE);
        DUE.is(33, "drop(0): refused, so nothing", x.drop(0), NULL);
        x.sheet(1, 1, 3);
        x.item(1, 1, 2, 7);
        DUE.is(32, "sheet(1, 2, -1)", x.sheet(1, 2, -1), SIZE);
        DUE.is(32, "the old row stays", x.show(1, 1, 2, 0, 1), 1);
        DUE.is(32, "seen(0, 0)", x.seen(0, 0), 7);
        DUE.is(32, "a new row is of noughts", x.sheet(1, 1, 3), 3);
        DUE.is(32, "show", x.show(1, 1, 2, 0, 1), 1);
        DUE.is(32, "seen(0, 0)", x.seen(0, 0), 0);
        x.item(1, 1, 0, 8);
        x.sheet(1, 1, 3);
        x.show(1, 1, 0, 0, 1);
        DUE.is(32, "a nought first", x.seen(0, 0), 0);
        DUE.is(32, "of another LANE", x.sheet(1, 0, 3), 3);
        DUE.is(32, "item", x.item(1, 1, 0, 0), CAST);
    }

    private static void item() {
        SandPalace x = new SandPalace();
        DUE.is(34, "NULL", x.item(0, 0, -1, 1), NULL);
        DUE.is(34, "BAD ahead of NULL", x.item(0, 3, 0, 1), BAD);
        x.sheet(0, 0, 2);
        x.sheet(1, 1, 2);
        x.sheet(2, 2, 2);
        for (int s = 0; s < 3; s++) {
            for (int lane = 0; lane < 3; lane++) {
                DUE.is(34, "CAST ahead of INDEX", x.item(s, lane, 2, 1), s == lane ? INDEX : CAST);
                DUE.is(34, "item", x.item(s, lane, 1, 4), s == lane ? 1 : CAST);
            }
            for (int wrong : new int[] {LEAST, -1, 2, MOST}) {
                DUE.is(34, "INDEX", x.item(s, s, wrong, 1), INDEX);
            }
        }
        for (int wrong : new int[] {LEAST, -1, 4, MOST}) {
            DUE.is(34, "item sheet", x.item(wrong, 0, 0, 0), BAD);
        }
        for (int wrong : new int[] {LEAST, -1, 3, MOST}) {
            DUE.is(34, "item lane", x.item(0, wrong, 0, 0), BAD);
        }
        x.item(0, 0, 0, 256 + 3);
        DUE.is(34, "show", x.show(0, 0, 0, 0, 1), 1);
        DUE.is(34, "lowest bits of a byte", x.seen(0, 0), 3);
        x.item(0, 0, 0, 251);
        DUE.is(34, "show", x.show(0, 0, 0, 0, 1), 1);
        DUE.is(34, "with their sign", x.seen(0, 0), -5);
        x.item(1, 1, 0, 65536 + 7);
        DUE.is(34, "show", x.show(1, 1, 0, 0, 1), 1);
        DUE.is(34, "lowest bits of a short", x.seen(0, 0), 7);
        x.item(1, 1, 0, 256 + 3);
        DUE.is(34, "a short is no byte", x.show(1, 1, 0, 0, 1), NOT);
        x.item(1, 1, 0, 65531);
        DUE.is(34, "show", x.show(1, 1, 0, 0, 1), 1);
        DUE.is(34, "with their sign", x.seen(0, 0), -5);
        x.item(2, 2, 0, 65536 + 7);
        DUE.is(34, "an int is no short", x.show(2, 2, 0, 0, 1), NOT);
    }

    private static void show() {
        SandPalace x = new SandPalace();
        DUE.is(35, "BAD ahead of NULL", x.show(0, 0, 0, 257, 0), BAD);
        DUE.is(35, "NULL", x.show(0, 0, -1, 256, 0), NULL);
        x.sheet(0, 1, 4);
        for (int i = 0; i < 4; i++) {
            x.item(0, 1, i, new int[] {9, -5, 0, 4}[i]);
        }
        DUE.is(35, "BAD ahead of CAST", x.show(0, 2, 0, 255, 2), BAD);
        DUE.is(35, "CAST ahead of INDEX", x.show(0, 2, 9, 0, 2), CAST);
        DUE.is(35, "show", x.show(0, 1, 0, 15, 4), 4);
        DUE.is(35, "seen(15, 0)", x.seen(15, 0), 9);
        DUE.is(35, "seen(0, 1)", x.seen(0, 1), -5);
        DUE.is(35, "seen(1, 1)", x.seen(1, 1), 0);
        DUE.is(35, "seen(2, 1)", x.seen(2, 1), 4);
        DUE.is(35, "the last cell", x.show(0, 1, 3, 255, 1), 1);
        DUE.is(35, "seen(15, 15)", x.seen(15, 15), 4);
        DUE.is(35, "none at the end", x.show(0, 1, 4, 256, 0), 0);
        DUE.is(35, "none behind the end", x.show(0, 1, 5, 256, 0), INDEX);
        DUE.is(35, "none ahead", x.show(0, 1, -1, 0, 0), INDEX);
        DUE.is(35, "five", x.show(0, 1, 0, 0, 5), INDEX);
        DUE.is(35, "wrap", x.show(0, 1, MOST, 0, 2), INDEX);
        DUE.is(35, "wrap", x.show(0, 1, LEAST, 0, 2), INDEX);
        for (int wrong : new int[] {LEAST, -1, 257, MOST}) {
            DUE.is(35, "show cell", x.show(0, 1, 0, wrong, 1), BAD);
            DUE.is(35, "show n", x.show(0, 1, 0, 0, wrong), BAD);
        }
        DUE.is(35, "cells beyond", x.show(0, 1, 0, 253, 4), BAD);
        DUE.is(35, "cells beyond", x.show(0, 1, 0, 256, MOST), BAD);
        for (int wrong : new int[] {LEAST, -1, 4, MOST}) {
            DUE.is(35, "show sheet", x.show(wrong, 0, 0, 0, 0), BAD);
        }
        for (int wrong : new int[] {LEAST, -1, 3, MOST}) {
            DUE.is(35, "show lane", x.show(0, wrong, 0, 0, 0), BAD);
        }
        for (int wrong : new int[] {10, -1, -4, -6}) {
            x.item(0, 1, 3, wrong);
            DUE.is(35, "one is not as told", x.show(0, 1, 0, 32, 4), NOT);
            DUE.is(35, "what is refused changes nothing", x.seen(0, 2), 0);
            DUE.is(35, "INDEX ahead of NOT", x.show(0, 1, 1, 32, 4), INDEX);
            DUE.is(35, "without it", x.show(0, 1, 0, 64, 3), 3);
        }
    }

    private static void keep() {
        SandPalace x = new SandPalace();
        x.rim(6, 7);
        x.photo();
        x.smear(2, 0);
        DUE.is(36, "BAD ahead of NULL", x.keep(0, 0, 0, 256, 1), BAD);
        DUE.is(36, "NULL", x.keep(0, 0, -1, 256, 0), NULL);
        for (int lane = 0; lane < 3; lane++) {
            x.sheet(lane, lane, 5);
            DUE.is(36, "CAST ahead of INDEX", x.keep(lane, (lane + 1) % 3, 9, 0, 1), CAST);
            DUE.is(36, "keep", x.keep(lane, lane, 1, 1, 3), 3);
            DUE.is(36, "show", x.show(lane, lane, 0, 128, 5), 5);
            DUE.is(36, "seen(0, 8): a nought ahead", x.seen(0, 8), 0);
            DUE.is(36, "seen(1, 8)", x.seen(1, 8), 6);
            DUE.is(36, "seen(2, 8)", x.seen(2, 8), -5);
            DUE.is(36, "seen(3, 8)", x.seen(3, 8), 6);
            DUE.is(36, "seen(4, 8): a nought behind", x.seen(4, 8), 0);
            DUE.is(36, "seen(1, 0): the PHOTO stays", x.seen(1, 0), 6);
            DUE.is(36, "at the end", x.keep(lane, lane, 5, 256, 0), 0);
            DUE.is(36, "behind the end", x.keep(lane, lane, 6, 0, 0), INDEX);
            DUE.is(36, "too many", x.keep(lane, lane, 3, 0, 3), INDEX);
            DUE.is(36, "ahead", x.keep(lane, lane, -1, 0, 1), INDEX);
            DUE.is(36, "wrap", x.keep(lane, lane, MOST, 0, 3), INDEX);
            x.show(lane, lane, 0, 128, 5);
            DUE.is(36, "what is refused changes nothing", x.seen(3, 8), 6);
        }
        for (int wrong : new int[] {LEAST, -1, 257, MOST}) {
            DUE.is(36, "keep cell", x.keep(0, 0, 0, wrong, 1), BAD);
            DUE.is(36, "keep n", x.keep(0, 0, 0, 0, wrong), BAD);
        }
        for (int wrong : new int[] {LEAST, -1, 4, MOST}) {
            DUE.is(36, "keep sheet", x.keep(wrong, 0, 0, 0, 0), BAD);
        }
        for (int wrong : new int[] {LEAST, -1, 3, MOST}) {
            DUE.is(36, "keep lane", x.keep(0, wrong, 0, 0, 0), BAD);
        }
        DUE.is(36, "cells beyond", x.keep(0, 0, 0, 254, 3), BAD);
    }
}
