/** The boundary cases of promises 1 to 13 and of "1 THE HALL", a sentence of the document each. */
public final class HallEdgesTest {
    private static final int BAD = Edges.BAD, NOT = Edges.NOT, FULL = Edges.FULL, CAST = Edges.CAST;
    private static final Due DUE = new Due();

    private HallEdgesTest() {
    }

    public static void main(String[] args) {
        aBareHall();
        cellsAreNoughtToFifteen();
        aCellTurned();
        quartersMeetAtEight();
        placesAreNoughtToSeven();
        coloursAreOneToNine();
        shapesAreNoughtToNine();
        aShapeAfterFullAndUndo();
        discIsOneToFourHundredAndFifty();
        discOfNOrLess();
        rimIsNoughtToSeven();
        everyCellIsOfOneRim();
        lineOfEveryString();
        lineEndsCount();
        lineNoMoreThanTheGreater();
        lineEndsAtItsEnds();
        blockBetween();
        stepIsNoughtToEight();
        signLessNineAsOftenAsAboveNine();
        layersNoneToTen();
        looksAsTheLastOne();
        reach();
        size();
        undoToNone();
        undoTakesHemsWithIt();
        toldOfNothing();
        toldEdges();
        stepEdges();
        quarterEdges();
        cellWhat();
        countEdges();
        unlikeEdges();
        DUE.end();
    }

    /** "A bare hall; a PHOTO of it." */
    private static void aBareHall() {
        SandPalace x = new SandPalace();
        for (int cell = 0; cell < 256; cell++) {
            DUE.is(1, "cell", x.cell(cell % 16, cell / 16, 0), 0);
        }
        DUE.is(1, "harm(0)", x.harm(0), 0);
        DUE.is(1, "harm(1)", x.harm(1), 0);
        DUE.is(1, "no SHAPE", x.told(0, 0), BAD);
        DUE.is(1, "count(0)", x.count(0), 256);
        SandPalace y = new SandPalace();
        for (int cell = 0; cell < 256; cell++) {
            DUE.is(1, "seen", y.seen(cell % 16, cell / 16), 0);
        }
        SandPalace z = new SandPalace();
        for (int cell = 0; cell < 256; cell++) {
            DUE.is(1, "layers", z.cell(cell % 16, cell / 16, 1), 0);
        }
    }

    /** "THE HALL has cells x, y 0 .. 15." */
    private static void cellsAreNoughtToFifteen() {
        for (int what = 0; what < 3; what++) {
            int w = what;
            Edges.taken(DUE, 11, "cell x", 0, 15, n -> new SandPalace().cell(n, 0, w));
            Edges.taken(DUE, 11, "cell y", 0, 15, n -> new SandPalace().cell(15, n, w));
        }
        Edges.taken(DUE, 21, "smear x", 0, 15, n -> new SandPalace().smear(n, 15));
        Edges.taken(DUE, 21, "smear y", 0, 15, n -> new SandPalace().smear(0, n));
        Edges.taken(DUE, 23, "seen x", 0, 15, n -> new SandPalace().seen(n, 15));
        Edges.taken(DUE, 23, "seen y", 0, 15, n -> new SandPalace().seen(0, n));
        Edges.taken(DUE, 24, "back x", 0, 15, n -> new SandPalace().back(n, 15));
        Edges.taken(DUE, 24, "back y", 0, 15, n -> new SandPalace().back(0, n));
        Edges.taken(DUE, 22, "cat x", 0, 15, n -> new SandPalace().cat(n, 15, 0, 1, 0));
        Edges.taken(DUE, 22, "cat y", 0, 15, n -> new SandPalace().cat(0, n, 1, 0, 0));
    }

    /** "A cell TURNED: 15 - y, x.", "A place u, v (0 .. 7) is the cell 8 + u, 8 + v, and that TURNED once, twice, thrice". */
    private static void aCellTurned() {
        for (int place = 0; place < 64; place++) {
            int u = place % 8;
            int v = place / 8;
            SandPalace x = new SandPalace();
            x.block(1, u, v, u, v);
            boolean[] due = new boolean[256];
            int cx = 8 + u;
            int cy = 8 + v;
            for (int q = 0; q < 4; q++) {
                due[16 * cy + cx] = true;
                int turnedX = 15 - cy;
                cy = cx;
                cx = turnedX;
            }
            for (int cell = 0; cell < 256; cell++) {
                DUE.is(5, "place " + u + ", " + v + " at cell " + cell, x.cell(cell % 16, cell / 16, 2), due[cell] ? 1 : 0);
            }
        }
    }

    /** "QUARTER 0 are cells with x and y 8 and more; QUARTER q + 1 is QUARTER q TURNED (q 0 .. 2)." */
    private static void quartersMeetAtEight() {
        SandPalace x = new SandPalace();
        x.sign(1, 0, 0, 7, 7, 1);
        for (int cell = 0; cell < 256; cell++) {
            boolean right = cell % 16 >= 8;
            int due = cell / 16 >= 8 ? (right ? 1 : 2) : (right ? 4 : 3);
            DUE.is(6, "QUARTER + 1 of cell " + cell, x.cell(cell % 16, cell / 16, 0), due);
        }
    }

    /** "A place u, v (0 .. 7)" */
    private static void placesAreNoughtToSeven() {
        Edges.taken(DUE, 4, "line a", 0, 7, n -> new SandPalace().line(1, n, 0, 7, 7));
        Edges.taken(DUE, 4, "line b", 0, 7, n -> new SandPalace().line(1, 0, n, 7, 7));
        Edges.taken(DUE, 4, "line c", 0, 7, n -> new SandPalace().line(1, 0, 0, n, 7));
        Edges.taken(DUE, 4, "line d", 0, 7, n -> new SandPalace().line(1, 0, 0, 7, n));
        Edges.taken(DUE, 5, "block a", 0, 7, n -> new SandPalace().block(1, n, 0, 7, 7));
        Edges.taken(DUE, 5, "block b", 0, 7, n -> new SandPalace().block(1, 0, n, 7, 7));
        Edges.taken(DUE, 5, "block c", 0, 7, n -> new SandPalace().block(1, 0, 0, n, 7));
        Edges.taken(DUE, 5, "block d", 0, 7, n -> new SandPalace().block(1, 0, 0, 7, n));
        Edges.taken(DUE, 6, "sign a", 0, 7, n -> new SandPalace().sign(1, n, 0, 7, 7, 0));
        Edges.taken(DUE, 6, "sign b", 0, 7, n -> new SandPalace().sign(1, 0, n, 7, 7, 0));
        Edges.taken(DUE, 6, "sign c", 0, 7, n -> new SandPalace().sign(1, 0, 0, n, 7, 0));
        Edges.taken(DUE, 6, "sign d", 0, 7, n -> new SandPalace().sign(1, 0, 0, 7, n, 0));
    }

    /** "each of COLOUR 1 .. 9" */
    private static void coloursAreOneToNine() {
        Edges.taken(DUE, 2, "disc colour", 1, 9, n -> new SandPalace().disc(n, 1));
        Edges.taken(DUE, 3, "rim colour", 1, 9, n -> new SandPalace().rim(n, 0));
        Edges.taken(DUE, 4, "line colour", 1, 9, n -> new SandPalace().line(n, 0, 0, 0, 0));
        Edges.taken(DUE, 5, "block colour", 1, 9, n -> new SandPalace().block(n, 0, 0, 0, 0));
        Edges.taken(DUE, 6, "sign colour", 1, 9, n -> new SandPalace().sign(n, 0, 0, 0, 0, 0));
        for (int colour = 1; colour <= 9; colour++) {
            SandPalace x = new SandPalace();
            x.disc(colour, 2);
            x.rim(colour, 1);
            x.line(colour, 7, 7, 7, 7);
            x.block(colour, 7, 6, 7, 6);
            x.sign(colour, 7, 5, 7, 5, 8);
            for (int s = 0; s < 5; s++) {
                DUE.is(8, "told COLOUR", x.told(s, 1), colour);
            }
            DUE.is(11, "DISC", x.cell(8, 8, 0), colour);
            DUE.is(11, "RIM", x.cell(9, 8, 0), colour);
            DUE.is(11, "LINE", x.cell(15, 15, 0), colour);
            DUE.is(11, "BLOCK", x.cell(15, 14, 0), colour);
            DUE.is(11, "SIGN", x.cell(15, 13, 0), colour);
        }
    }

    private static int add(SandPalace x, int kind) {
        switch (kind) {
            case 0:
                return x.disc(1, 2);
            case 1:
                return x.rim(1, 0);
            case 2:
                return x.line(1, 0, 0, 0, 0);
            case 3:
                return x.block(1, 0, 0, 0, 0);
            default:
                return x.sign(1, 0, 0, 0, 0, 0);
        }
    }

    /** SHAPES 0 to 4, of KINDS 0 to 4. */
    private static SandPalace ofFiveKinds() {
        SandPalace x = new SandPalace();
        for (int kind = 0; kind < 5; kind++) {
            add(x, kind);
        }
        return x;
    }

    /** "SHAPES 0 .. 9, as they come", "FULL: 10." */
    private static void shapesAreNoughtToNine() {
        for (int kind = 0; kind < 5; kind++) {
            SandPalace x = new SandPalace();
            for (int s = 0; s < 10; s++) {
                DUE.is(2 + kind, "the number of SHAPE " + s, add(x, kind), s);
                DUE.is(8, "told KIND", x.told(s, 0), kind);
                DUE.is(8, "told of the next", x.told(s + 1, 0), BAD);
            }
            DUE.is(2 + kind, "the eleventh", add(x, kind), FULL);
            DUE.is(2 + kind, "the eleventh again", add(x, kind), FULL);
            DUE.is(8, "told(10, 0)", x.told(10, 0), BAD);
            DUE.is(11, "LAYERS of ten alone", x.cell(8, 8, 1), 10);
        }
    }

    /** "FULL: 10." as many as are there now, not as many as there ever were. */
    private static void aShapeAfterFullAndUndo() {
        for (int kind = 0; kind < 5; kind++) {
            SandPalace x = Edges.ofTen();
            DUE.is(2 + kind, "full", add(x, kind), FULL);
            DUE.is(7, "undo()", x.undo(), 9);
            DUE.is(2 + kind, "one more", add(x, kind), 9);
            DUE.is(8, "told KIND", x.told(9, 0), kind);
            DUE.is(2 + kind, "full again", add(x, kind), FULL);
        }
    }

    /** "0 DISC of n (1 .. 450)" */
    private static void discIsOneToFourHundredAndFifty() {
        Edges.taken(DUE, 2, "disc n", 1, 450, n -> new SandPalace().disc(9, n));
    }

    /** "cells with the sum of squares of 2 x - 15, 2 y - 15 of n or less" */
    private static void discOfNOrLess() {
        for (int n = 1; n <= 450; n++) {
            SandPalace x = new SandPalace();
            x.disc(1, n);
            int size = 0;
            for (int cell = 0; cell < 256; cell++) {
                int across = 2 * (cell % 16) - 15;
                int up = 2 * (cell / 16) - 15;
                int here = across * across + up * up <= n ? 1 : 0;
                size += here;
                DUE.is(2, "DISC " + n + " at cell " + cell, x.cell(cell % 16, cell / 16, 2), here);
            }
            DUE.is(2, "SIZE of DISC " + n, x.told(0, 2), size);
        }
    }

    /** "1 RIM k (0 .. 7)" */
    private static void rimIsNoughtToSeven() {
        Edges.taken(DUE, 3, "rim k", 0, 7, n -> new SandPalace().rim(9, n));
    }

    /** "the greater of 2 x - 15, 2 y - 15 (without signs) is 2 k + 1" */
    private static void everyCellIsOfOneRim() {
        SandPalace x = new SandPalace();
        for (int k = 0; k < 8; k++) {
            x.rim(1, k);
        }
        for (int cell = 0; cell < 256; cell++) {
            int greater = Math.max(Math.abs(2 * (cell % 16) - 15), Math.abs(2 * (cell / 16) - 15));
            DUE.is(3, "RIM of cell " + cell, x.cell(cell % 16, cell / 16, 2), 1 << (greater - 1) / 2);
        }
    }

    /** "places u, v between both .. with 2 times the size of .. no more than the greater of the sizes of c - a, d - b" */
    private static void lineOfEveryString() {
        for (int ends = 0; ends < 4096; ends++) {
            int a = ends & 7;
            int b = ends >> 3 & 7;
            int c = ends >> 6 & 7;
            int d = ends >> 9;
            SandPalace x = new SandPalace();
            x.line(1, a, b, c, d);
            int size = 0;
            for (int place = 0; place < 64; place++) {
                int u = place % 8;
                int v = place / 8;
                boolean between = (u - a) * (u - c) <= 0 && (v - b) * (v - d) <= 0;
                int off = 2 * Math.abs((u - a) * (d - b) - (v - b) * (c - a));
                int here = between && off <= Math.max(Math.abs(c - a), Math.abs(d - b)) ? 1 : 0;
                size += here;
                DUE.is(4, "line " + a + b + c + d + " at " + u + v, x.cell(8 + u, 8 + v, 1), here);
            }
            DUE.is(4, "SIZE of line " + a + b + c + d, x.told(0, 2), 4 * size);
        }
    }

    /** "(u between a and c, v between b and d, ends counted)" */
    private static void lineEndsCount() {
        for (int ends = 0; ends < 4096; ends++) {
            SandPalace x = new SandPalace();
            x.line(1, ends & 7, ends >> 3 & 7, ends >> 6 & 7, ends >> 9);
            DUE.is(4, "its first place", x.cell(8 + (ends & 7), 8 + (ends >> 3 & 7), 0), 1);
            DUE.is(4, "its last place", x.cell(8 + (ends >> 6 & 7), 8 + (ends >> 9), 0), 1);
        }
        SandPalace one = new SandPalace();
        one.line(1, 7, 0, 7, 0);
        DUE.is(4, "both ends one place", one.told(0, 2), 4);
    }

    /**
     * "no more than the greater": from 0, 0 to 4, 1 the string is half way at u 2, where both places count; from 0, 2 to
     * 5, 3 it is nowhere half way.
     */
    private static void lineNoMoreThanTheGreater() {
        SandPalace x = new SandPalace();
        x.line(1, 0, 0, 4, 1);
        DUE.is(4, "just as much: both", x.cell(10, 8, 0) + x.cell(10, 9, 0), 2);
        DUE.is(4, "more: not", x.cell(9, 9, 0) + x.cell(11, 8, 0), 0);
        DUE.is(4, "SIZE", x.told(0, 2), 24);
        x.line(2, 0, 2, 5, 3);
        for (int u = 0; u < 6; u++) {
            DUE.is(4, "less: one", x.cell(8 + u, 10, 1) + x.cell(8 + u, 11, 1), 1);
        }
    }

    /** "places u, v between both" */
    private static void lineEndsAtItsEnds() {
        SandPalace x = new SandPalace();
        x.line(1, 2, 2, 5, 5);
        DUE.is(4, "not on behind it", x.cell(14, 14, 0), 0);
        DUE.is(4, "not on ahead of it", x.cell(9, 9, 0), 0);
        x.line(2, 6, 1, 3, 1);
        DUE.is(4, "flat: not behind", x.cell(15, 9, 0), 0);
        DUE.is(4, "flat: not ahead", x.cell(10, 9, 0), 0);
        x.line(3, 0, 4, 0, 6);
        DUE.is(4, "upright: not behind", x.cell(8, 15, 0), 0);
        DUE.is(4, "upright: not ahead", x.cell(8, 11, 0), 0);
        SandPalace y = new SandPalace();
        y.line(1, 0, 0, 7, 7);
        DUE.is(4, "the longest slanting", y.told(0, 2), 32);
        y.line(1, 7, 0, 0, 0);
        DUE.is(4, "the longest flat", y.told(1, 2), 32);
    }

    /** "3 BLOCK: all places u, v between a, b and c, d" */
    private static void blockBetween() {
        for (int ends = 0; ends < 4096; ends++) {
            int a = ends & 7;
            int b = ends >> 3 & 7;
            int c = ends >> 6 & 7;
            int d = ends >> 9;
            SandPalace x = new SandPalace();
            x.block(1, a, b, c, d);
            x.sign(1, a, b, c, d, 0);
            for (int place = 0; place < 64; place++) {
                int u = place % 8;
                int v = place / 8;
                int here = (u - a) * (u - c) <= 0 && (v - b) * (v - d) <= 0 ? 3 : 0;
                DUE.is(5, "block and sign " + a + b + c + d + " at " + u + v, x.cell(8 + u, 8 + v, 2), here);
            }
        }
    }

    /** "STEP (0 .. 8)" */
    private static void stepIsNoughtToEight() {
        Edges.taken(DUE, 6, "sign step", 0, 8, n -> new SandPalace().sign(9, 0, 0, 7, 7, n));
    }

    /** "in QUARTER q of COLOUR: COLOUR + q STEP, less 9 as often as it is above 9" */
    private static void signLessNineAsOftenAsAboveNine() {
        for (int colour = 1; colour <= 9; colour++) {
            for (int step = 0; step <= 8; step++) {
                SandPalace x = new SandPalace();
                x.sign(colour, 7, 0, 7, 0, step);
                int[] cells = {x.cell(15, 8, 0), x.cell(7, 15, 0), x.cell(0, 7, 0), x.cell(8, 0, 0)};
                for (int q = 0; q < 4; q++) {
                    int due = colour + q * step;
                    while (due > 9) {
                        due -= 9;
                    }
                    DUE.is(6, "COLOUR " + colour + " STEP " + step + " QUARTER " + q, cells[q], due);
                }
            }
        }
    }

    /** "A cell has the LAYERS of all SHAPES that it is of": none, one, all ten. */
    private static void layersNoneToTen() {
        SandPalace x = new SandPalace();
        for (int s = 0; s < 10; s++) {
            DUE.is(11, "how many", x.cell(15, 0, 1), s);
            DUE.is(11, "bits", x.cell(15, 0, 2), (1 << s) - 1);
            x.block(1, 7, 7, 7, 7);
        }
        DUE.is(11, "ten", x.cell(15, 0, 1), 10);
        DUE.is(11, "bits of ten", x.cell(15, 0, 2), 1023);
        DUE.is(11, "beside it none", x.cell(14, 0, 1), 0);
    }

    /** "it looks as the last one (0: bare)" */
    private static void looksAsTheLastOne() {
        SandPalace x = new SandPalace();
        for (int colour = 1; colour <= 9; colour++) {
            x.rim(colour, 0);
            DUE.is(11, "the last", x.cell(7, 8, 0), colour);
        }
        for (int colour = 9; colour >= 1; colour--) {
            DUE.is(11, "the last left", x.cell(7, 8, 0), colour);
            x.undo();
        }
        DUE.is(11, "bare", x.cell(7, 8, 0), 0);
    }

    /** "REACH of a SHAPE: the least k for which all its cells are of RIMS 0 .. k." */
    private static void reach() {
        SandPalace x = new SandPalace();
        x.disc(1, 1);
        x.disc(1, 225 + 1);
        x.disc(1, 225);
        x.block(1, 0, 0, 0, 0);
        x.block(1, 7, 0, 7, 0);
        x.block(1, 0, 7, 0, 7);
        x.sign(1, 6, 2, 3, 4, 1);
        x.line(1, 2, 6, 4, 1);
        x.disc(1, 450);
        x.disc(1, 9);
        int[] due = {0, 7, 6, 0, 7, 7, 6, 6, 7, 0};
        for (int s = 0; s < 10; s++) {
            DUE.is(8, "REACH of SHAPE " + s, x.told(s, 3), due[s]);
        }
        for (int k = 0; k < 8; k++) {
            SandPalace y = new SandPalace();
            y.rim(1, k);
            DUE.is(8, "REACH of RIM " + k, y.told(0, 3), k);
        }
    }

    /** "SIZE: how many cells it has." None, four, all. */
    private static void size() {
        SandPalace x = new SandPalace();
        x.disc(1, 1);
        x.disc(1, 2);
        x.disc(1, 450);
        x.rim(1, 0);
        x.rim(1, 7);
        x.block(1, 7, 7, 0, 0);
        x.sign(1, 7, 7, 7, 7, 8);
        int[] due = {0, 4, 256, 4, 60, 256, 4};
        for (int s = 0; s < 7; s++) {
            DUE.is(8, "SIZE of SHAPE " + s, x.told(s, 2), due[s]);
        }
    }

    /** "how many are left. NOT: there is none." */
    private static void undoToNone() {
        SandPalace x = Edges.ofTen();
        for (int left = 9; left >= 0; left--) {
            DUE.is(7, "undo()", x.undo(), left);
            DUE.is(7, "the one that went", x.told(left, 0), BAD);
        }
        DUE.is(7, "undo()", x.undo(), NOT);
        DUE.is(7, "undo()", x.undo(), NOT);
        DUE.is(7, "count(0)", x.count(0), 256);
        DUE.is(7, "from 0 on", x.rim(1, 1), 0);
        DUE.is(7, "undo()", x.undo(), 0);
        DUE.is(7, "of a new object", new SandPalace().undo(), NOT);
    }

    /** "The latest SHAPE goes, HEMS with it": its own and those of it; the others stay. */
    private static void undoTakesHemsWithIt() {
        SandPalace x = Edges.ofTen();
        for (int s = 0; s < 9; s++) {
            x.hem(s, 9, true);
            x.hem(9, s, true);
        }
        x.hem(8, 0, true);
        x.hem(0, 8, true);
        x.undo();
        x.rim(1, 7);
        for (int s = 0; s < 9; s++) {
            DUE.is(7, "no HEM of the new one", x.hem(s, 9, false), 0);
            DUE.is(7, "no HEM by the new one", x.hem(9, s, false), 0);
        }
        DUE.is(7, "of others", x.hem(8, 0, false), 1);
        DUE.is(7, "of others", x.hem(0, 8, false), 1);
    }

    /** "BAD -1 (a number .. names nothing)": with no SHAPE told every number is. */
    private static void toldOfNothing() {
        for (int what = 0; what < 5; what++) {
            int w = what;
            Edges.refusedBelow(DUE, 8, "told of nothing", Edges.MOST, BAD, n -> new SandPalace().told(n, w));
        }
        Edges.refusedBelow(DUE, 9, "step of nothing", Edges.MOST, BAD, n -> new SandPalace().step(n));
        Edges.refusedBelow(DUE, 10, "quarter of nothing", Edges.MOST, BAD, n -> new SandPalace().quarter(n));
    }

    /** "Of a SHAPE: 0 KIND, 1 COLOUR, 2 SIZE, 3 REACH, 4 how many SHAPES it comes AFTER. BAD." */
    private static void toldEdges() {
        Edges.taken(DUE, 8, "told shape of ten", 0, 9, n -> Edges.ofTen().told(n, 0));
        Edges.taken(DUE, 8, "told what", 0, 4, n -> Edges.ofTen().told(9, n));
        Edges.taken(DUE, 8, "told shape of five", 0, 4, n -> ofFiveKinds().told(n, 4));
        SandPalace y = new SandPalace();
        for (int s = 0; s < 10; s++) {
            y.rim(1, 0);
            DUE.is(8, "AFTER all that are told ahead", y.told(s, 4), s);
        }
        for (int s = 0; s < 10; s++) {
            for (int o = 0; o < 10; o++) {
                y.hem(s, o, true);
            }
        }
        for (int s = 0; s < 10; s++) {
            DUE.is(8, "AFTER all others, each counted once", y.told(s, 4), 9);
        }
    }

    /** "STEP of a SIGN. BAD; CAST." */
    private static void stepEdges() {
        SandPalace x = ofFiveKinds();
        for (int s = 0; s < 4; s++) {
            DUE.is(9, "no SIGN", x.step(s), CAST);
        }
        DUE.is(9, "STEP 0", x.step(4), 0);
        x.sign(1, 0, 0, 7, 7, 8);
        DUE.is(9, "STEP 8", x.step(5), 8);
        Edges.taken(DUE, 9, "step shape", 0, 4, n -> ofFiveKinds().step(n));
        x.undo();
        DUE.is(9, "one that went", x.step(5), BAD);
    }

    /** "SIZE of a BLOCK (also a SIGN) in one QUARTER. BAD; CAST." */
    private static void quarterEdges() {
        SandPalace x = ofFiveKinds();
        for (int s = 0; s < 3; s++) {
            DUE.is(10, "no BLOCK", x.quarter(s), CAST);
        }
        DUE.is(10, "one cell of a BLOCK", x.quarter(3), 1);
        DUE.is(10, "one cell of a SIGN", x.quarter(4), 1);
        x.block(1, 7, 0, 0, 7);
        x.sign(1, 0, 7, 7, 0, 1);
        DUE.is(10, "all of a QUARTER", x.quarter(5), 64);
        DUE.is(10, "all of a QUARTER", x.quarter(6), 64);
        Edges.taken(DUE, 10, "quarter shape", 0, 4, n -> ofFiveKinds().quarter(n));
        x.undo();
        DUE.is(10, "one that went", x.quarter(6), BAD);
    }

    /** "How a cell looks (what 0), how many LAYERS it has (1), its LAYERS' SHAPES as bits (2). BAD." */
    private static void cellWhat() {
        SandPalace x = Edges.ofTen();
        Edges.taken(DUE, 11, "cell what", 0, 2, n -> Edges.ofTen().cell(8, 9, n));
        DUE.is(11, "the last SHAPE's bit", x.cell(9, 9, 2), 512);
        DUE.is(11, "a bare cell", x.cell(15, 15, 2), 0);
    }

    /** "How many cells look of a COLOUR 0 .. 9. BAD." */
    private static void countEdges() {
        Edges.taken(DUE, 12, "count", 0, 9, n -> Edges.ofTen().count(n));
        for (int colour = 0; colour <= 9; colour++) {
            DUE.is(12, "of a bare hall", new SandPalace().count(colour), colour == 0 ? 256 : 0);
            SandPalace x = new SandPalace();
            x.disc(colour == 0 ? 1 : colour, 450);
            DUE.is(12, "of a whole hall", x.count(colour), colour == 0 ? 0 : 256);
        }
        SandPalace y = new SandPalace();
        y.sign(6, 0, 0, 7, 7, 3);
        DUE.is(12, "QUARTERS 0 and 3", y.count(6), 128);
        DUE.is(12, "QUARTER 1", y.count(9), 64);
        DUE.is(12, "QUARTER 2", y.count(3), 64);
    }

    /** "how many cells of QUARTERS 1 .. 3 do not" */
    private static void unlikeEdges() {
        DUE.is(13, "a bare hall", new SandPalace().unlike(), 0);
        int[] due = {0, 192, 192, 128, 192, 192, 128, 192, 192};
        for (int step = 0; step <= 8; step++) {
            SandPalace x = new SandPalace();
            x.sign(5, 0, 0, 7, 7, step);
            DUE.is(13, "a whole SIGN of STEP " + step, x.unlike(), due[step]);
            x.block(5, 0, 0, 7, 7);
            DUE.is(13, "all covered", x.unlike(), 0);
        }
        SandPalace y = new SandPalace();
        y.sign(9, 7, 7, 7, 7, 1);
        DUE.is(13, "one place", y.unlike(), 3);
    }
}
