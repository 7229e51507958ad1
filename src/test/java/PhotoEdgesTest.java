/** The boundary cases of promises 20 to 27 and of what "Terms" says of PHOTO, TOLD BACK, OFF and AGAIN, a sentence each. */
public final class PhotoEdgesTest {
    private static final int BAD = Edges.BAD, NOT = Edges.NOT, LOST = Edges.LOST, QUARREL = Edges.QUARREL;
    private static final int SMEARED = Edges.SMEARED;
    private static final int[][] STRIDES = {{1, 0}, {1, 1}, {0, 1}, {-1, 1}, {-1, 0}, {-1, -1}, {0, -1}, {1, -1}};
    private static final Due DUE = new Due();

    private PhotoEdgesTest() {
    }

    public static void main(String[] args) {
        photoNoneAndAll();
        photoHasNoneSmeared();
        photoStaysAsItWasTaken();
        coloursNoughtToNineOrSmeared();
        smearWhatItWas();
        smearOneCellAlone();
        catStride();
        catNotBothNought();
        catIsNoughtToFifteenOn();
        catOfNought();
        catAsFarAsTheHallIs();
        catAllAlong();
        catCountsNewOnes();
        backNotSmeared();
        backByThreeTwoOne();
        lostIfThereAreNone();
        quarrelIfTheyAreUnlike();
        backRoundOneToNine();
        backNoughtAsItIs();
        backByTheLastSign();
        backByThePictureAsItIs();
        mendNothing();
        mendAll();
        mendAtOnce();
        mendLeavesLostAndQuarrel();
        harmWhat();
        harmNoneAndAll();
        offOfNotSmeared();
        againNoneAndAll();
        againOfHiddenLayers();
        againOfEveryCell();
        againOnAndOn();
        DUE.end();
    }

    /** The cell of place u, v in QUARTER q, as 16 y + x. */
    private static int cellOf(int u, int v, int q) {
        int[][] cells = {{8 + u, 8 + v}, {7 - v, 8 + u}, {7 - u, 7 - v}, {8 + v, 7 - u}};
        return 16 * cells[q][1] + cells[q][0];
    }

    private static int smear(SandPalace x, int cell) {
        return x.smear(cell % 16, cell / 16);
    }

    private static int seen(SandPalace x, int cell) {
        return x.seen(cell % 16, cell / 16);
    }

    private static int back(SandPalace x, int cell) {
        return x.back(cell % 16, cell / 16);
    }

    private static void colour(SandPalace x, int cell, int colour) {
        Edges.colourCell(x, cell % 16, cell / 16, colour);
    }

    private static SandPalace allSmeared(SandPalace x) {
        for (int y = 0; y < 16; y++) {
            x.cat(0, y, 1, 0, 15);
        }
        return x;
    }

    /** "A PHOTO is taken: how many cells are not bare." */
    private static void photoNoneAndAll() {
        SandPalace x = new SandPalace();
        DUE.is(20, "none", x.photo(), 0);
        x.disc(1, 1);
        DUE.is(20, "a SHAPE without cells", x.photo(), 0);
        x.rim(1, 0);
        DUE.is(20, "four", x.photo(), 4);
        x.rim(2, 0);
        DUE.is(20, "a cell once, whatever its LAYERS", x.photo(), 4);
        x.disc(9, 450);
        DUE.is(20, "all", x.photo(), 256);
        x.undo();
        x.undo();
        x.undo();
        DUE.is(20, "none again", x.photo(), 0);
    }

    /** "It is taken of the picture (none SMEARED)" */
    private static void photoHasNoneSmeared() {
        SandPalace x = new SandPalace();
        x.sign(7, 0, 0, 7, 7, 1);
        allSmeared(x);
        DUE.is(20, "photo()", x.photo(), 256);
        DUE.is(26, "harm(0)", x.harm(0), 0);
        DUE.is(26, "harm(1)", x.harm(1), 0);
        for (int q = 0; q < 4; q++) {
            for (int place = 0; place < 64; place++) {
                DUE.is(23, "seen", seen(x, cellOf(place % 8, place / 8, q)), q < 3 ? 7 + q : 1);
            }
        }
    }

    /** "It is taken of the picture": as it was then, whatever is told or undone behind it. */
    private static void photoStaysAsItWasTaken() {
        SandPalace x = new SandPalace();
        x.rim(4, 7);
        DUE.is(23, "of the bare hall", x.seen(15, 15), 0);
        x.photo();
        x.rim(5, 7);
        DUE.is(23, "of the picture as it was", x.seen(15, 15), 4);
        x.undo();
        x.undo();
        DUE.is(23, "of the picture as it was", x.seen(0, 0), 4);
    }

    /** "A PHOTO has a COLOUR 0 .. 9 of each cell, or none (SMEARED)." "(-5: SMEARED)" */
    private static void coloursNoughtToNineOrSmeared() {
        for (int corner : new int[] {0, 15, 240, 255, 119, 120, 135, 136}) {
            SandPalace x = new SandPalace();
            for (int colour = 0; colour <= 9; colour++) {
                colour(x, corner, colour);
                DUE.is(23, "seen", seen(x, corner), colour);
            }
            smear(x, corner);
            DUE.is(23, "seen", seen(x, corner), SMEARED);
        }
    }

    /** "A cell of the PHOTO is SMEARED: what it was (-5: it was SMEARED)." */
    private static void smearWhatItWas() {
        SandPalace x = new SandPalace();
        for (int colour = 0; colour <= 9; colour++) {
            colour(x, 255, colour);
            DUE.is(21, "what it was", x.smear(15, 15), colour);
            DUE.is(21, "it was SMEARED", x.smear(15, 15), SMEARED);
        }
    }

    /** "A cell of the PHOTO is SMEARED": that one, of the PHOTO, and no other. */
    private static void smearOneCellAlone() {
        for (int cell : new int[] {0, 1, 15, 16, 119, 120, 135, 136, 239, 240, 255}) {
            SandPalace x = new SandPalace();
            DUE.is(21, "smear", smear(x, cell), 0);
            for (int other = 0; other < 256; other++) {
                DUE.is(21, "seen " + other, seen(x, other), other == cell ? SMEARED : 0);
            }
            DUE.is(21, "harm(0)", x.harm(0), 1);
            DUE.is(11, "the picture is not", x.cell(cell % 16, cell / 16, 0), 0);
        }
    }

    /** "(dx, dy -1 .. 1" */
    private static void catStride() {
        Edges.taken(DUE, 22, "cat dx", -1, 1, n -> new SandPalace().cat(8, 8, n, 1, 0));
        Edges.taken(DUE, 22, "cat dx", -1, 1, n -> new SandPalace().cat(8, 8, n, -1, 15));
        Edges.taken(DUE, 22, "cat dy", -1, 1, n -> new SandPalace().cat(8, 8, 1, n, 0));
        Edges.taken(DUE, 22, "cat dy", -1, 1, n -> new SandPalace().cat(8, 8, -1, n, 15));
    }

    /** "not both 0)" */
    private static void catNotBothNought() {
        for (int n = 0; n <= 15; n++) {
            SandPalace x = new SandPalace();
            DUE.is(22, "both 0", x.cat(n, n, 0, 0, n), BAD);
            DUE.is(22, "nothing", x.harm(0), 0);
            DUE.is(22, "dx alone 0", x.cat(8, 8, 0, 1, 0), 1);
            DUE.is(22, "dy alone 0", x.cat(7, 8, -1, 0, 0), 1);
        }
    }

    /** "n cells on (0 .. 15" */
    private static void catIsNoughtToFifteenOn() {
        Edges.taken(DUE, 22, "cat n", 0, 15, n -> new SandPalace().cat(0, 0, 1, 1, n));
        Edges.taken(DUE, 22, "cat n at the wall", 0, 15, n -> new SandPalace().cat(0, 0, -1, -1, n));
        for (int n = 0; n <= 15; n++) {
            SandPalace x = new SandPalace();
            DUE.is(22, "from a cell, and n on", x.cat(0, 15, 1, -1, n), n + 1);
            for (int i = 0; i <= 15; i++) {
                DUE.is(22, "seen", x.seen(i, 15 - i), i <= n ? SMEARED : 0);
            }
        }
    }

    /** "n cells on (0 ..": with 0 the cell that it goes from is SMEARED still. */
    private static void catOfNought() {
        for (int[] stride : STRIDES) {
            SandPalace x = new SandPalace();
            DUE.is(22, "its own cell alone", x.cat(7, 8, stride[0], stride[1], 0), 1);
            DUE.is(22, "seen", x.seen(7, 8), SMEARED);
            DUE.is(22, "harm(0)", x.harm(0), 1);
        }
    }

    /** "as far as the hall is": from every cell, each way, the way to the wall. */
    private static void catAsFarAsTheHallIs() {
        for (int cell = 0; cell < 256; cell++) {
            for (int[] stride : STRIDES) {
                int cx = cell % 16;
                int cy = cell / 16;
                int wide = stride[0] == 0 ? 16 : stride[0] > 0 ? 16 - cx : cx + 1;
                int high = stride[1] == 0 ? 16 : stride[1] > 0 ? 16 - cy : cy + 1;
                SandPalace x = new SandPalace();
                DUE.is(22, "cat from " + cell, x.cat(cx, cy, stride[0], stride[1], 15), Math.min(wide, high));
                DUE.is(22, "harm(0)", x.harm(0), Math.min(wide, high));
            }
        }
    }

    /** "n cells on (.. 15": from wall to wall. */
    private static void catAllAlong() {
        SandPalace x = new SandPalace();
        for (int i = 0; i < 16; i++) {
            DUE.is(22, "row " + i, x.cat(i % 2 == 0 ? 0 : 15, i, i % 2 == 0 ? 1 : -1, 0, 15), 16);
        }
        DUE.is(26, "all SMEARED", x.harm(0), 256);
        for (int i = 0; i < 16; i++) {
            DUE.is(22, "no new one", x.cat(i, 0, 0, 1, 15), 0);
        }
        DUE.is(26, "all SMEARED", x.harm(0), 256);
    }

    /** "how many cells became SMEARED" */
    private static void catCountsNewOnes() {
        SandPalace x = new SandPalace();
        x.smear(0, 0);
        x.smear(15, 0);
        x.smear(7, 0);
        DUE.is(22, "first, last and one between were", x.cat(0, 0, 1, 0, 15), 13);
        DUE.is(22, "all were", x.cat(15, 0, -1, 0, 15), 0);
        DUE.is(22, "the first was", x.cat(3, 0, 0, 1, 15), 15);
    }

    /** "NOT: it is not SMEARED" */
    private static void backNotSmeared() {
        SandPalace x = new SandPalace();
        DUE.is(24, "bare", x.back(0, 0), NOT);
        x.disc(3, 450);
        x.photo();
        DUE.is(24, "a COLOUR", x.back(15, 0), NOT);
        x.smear(15, 15);
        DUE.is(24, "another of the place is", x.back(15, 0), NOT);
        x.smear(15, 0);
        DUE.is(24, "now it is", x.back(15, 0), 3);
        x.mend();
        DUE.is(24, "no more", x.back(15, 0), NOT);
    }

    /** "of the other three of its place (TURNED) those not SMEARED .. if these are one, that" */
    private static void backByThreeTwoOne() {
        for (int place : new int[] {0, 7, 56, 63, 26}) {
            for (int q = 0; q < 4; q++) {
                for (int left = 0; left < 16; left++) {
                    SandPalace x = new SandPalace();
                    x.disc(6, 450);
                    x.photo();
                    for (int p = 0; p < 4; p++) {
                        if (p == q || (left >> p & 1) == 0) {
                            smear(x, cellOf(place % 8, place / 8, p));
                        }
                    }
                    int due = (left & ~(1 << q)) == 0 ? LOST : 6;
                    DUE.is(24, "by the others as bits " + left, back(x, cellOf(place % 8, place / 8, q)), due);
                }
            }
        }
    }

    /** "LOST, if there are none" */
    private static void lostIfThereAreNone() {
        SandPalace x = allSmeared(new SandPalace());
        for (int cell = 0; cell < 256; cell++) {
            DUE.is(24, "of cell " + cell, back(x, cell), LOST);
        }
        DUE.is(26, "harm(2)", x.harm(2), 256);
        colour(x, cellOf(3, 4, 2), 9);
        DUE.is(24, "one is back", back(x, cellOf(3, 4, 0)), 9);
        DUE.is(26, "harm(2)", x.harm(2), 252);
    }

    /** "QUARREL, if they are unlike" */
    private static void quarrelIfTheyAreUnlike() {
        for (int odd = 0; odd < 4; odd++) {
            for (int q = 0; q < 4; q++) {
                SandPalace x = new SandPalace();
                x.disc(6, 450);
                x.photo();
                colour(x, cellOf(7, 0, odd), 5);
                smear(x, cellOf(7, 0, q));
                int due = q == odd ? 6 : QUARREL;
                DUE.is(24, "one of three unlike", back(x, cellOf(7, 0, q)), due);
                smear(x, cellOf(7, 0, q ^ 1));
                due = q == odd || (q ^ 1) == odd ? 6 : QUARREL;
                DUE.is(24, "one of two unlike", back(x, cellOf(7, 0, q)), due);
                smear(x, cellOf(7, 0, q ^ 2));
                due = odd == (q ^ 3) ? 5 : 6;
                DUE.is(24, "one alone is never unlike", back(x, cellOf(7, 0, q)), due);
            }
        }
        SandPalace y = new SandPalace();
        y.smear(8, 8);
        colour(y, cellOf(0, 0, 1), 1);
        colour(y, cellOf(0, 0, 2), 1);
        DUE.is(24, "0 is unlike 1", y.back(8, 8), QUARREL);
        colour(y, cellOf(0, 0, 3), 1);
        DUE.is(24, "all 1", y.back(8, 8), 1);
    }

    /** "is here that of p, less STEP times p, and STEP times q more (round, 1 .. 9)" */
    private static void backRoundOneToNine() {
        for (int step = 0; step <= 8; step++) {
            for (int pair = 0; pair < 16; pair++) {
                int p = pair / 4;
                int q = pair % 4;
                SandPalace x = new SandPalace();
                x.sign(1, 7, 7, 7, 7, step);
                for (int other = 0; other < 4; other++) {
                    smear(x, cellOf(7, 7, other));
                }
                for (int colour = 1; colour <= 9 && p != q; colour++) {
                    int due = colour - step * p + step * q;
                    while (due < 1) {
                        due += 9;
                    }
                    while (due > 9) {
                        due -= 9;
                    }
                    colour(x, cellOf(7, 7, p), colour);
                    DUE.is(24, "STEP " + step + " from " + p + " to " + q + " of " + colour, back(x, cellOf(7, 7, q)), due);
                }
            }
        }
    }

    /** "a COLOUR in QUARTER p, 0 as it is" */
    private static void backNoughtAsItIs() {
        for (int step = 0; step <= 8; step++) {
            SandPalace x = new SandPalace();
            x.sign(9, 0, 0, 7, 7, step);
            x.smear(0, 0);
            DUE.is(24, "all 0", x.back(0, 0), 0);
            colour(x, 255, 9);
            DUE.is(24, "0 and a COLOUR", x.back(0, 0), QUARREL);
        }
    }

    /** "if the place is of a SIGN (the last SIGN that it is of), else as it is" */
    private static void backByTheLastSign() {
        SandPalace x = new SandPalace();
        x.photo();
        colour(x, cellOf(1, 1, 1), 4);
        for (int q : new int[] {0, 2, 3}) {
            smear(x, cellOf(1, 1, q));
        }
        DUE.is(24, "of no SIGN", back(x, cellOf(1, 1, 2)), 4);
        x.sign(1, 1, 1, 1, 1, 2);
        DUE.is(24, "of one", back(x, cellOf(1, 1, 2)), 6);
        x.sign(1, 2, 1, 7, 7, 5);
        DUE.is(24, "beside another", back(x, cellOf(1, 1, 2)), 6);
        x.block(1, 0, 0, 7, 7);
        DUE.is(24, "below a BLOCK", back(x, cellOf(1, 1, 2)), 6);
        x.sign(1, 1, 1, 1, 1, 0);
        DUE.is(24, "of STEP 0, the last", back(x, cellOf(1, 1, 2)), 4);
        x.sign(1, 0, 0, 1, 1, 7);
        DUE.is(24, "the last", back(x, cellOf(1, 1, 2)), 2);
        x.disc(1, 450);
        x.rim(1, 1);
        x.line(1, 0, 0, 7, 7);
        x.sign(1, 0, 0, 7, 7, 8);
        DUE.is(24, "the last of ten SHAPES", back(x, cellOf(1, 1, 2)), 3);
    }

    /** "(Places, SIGNS by the picture as it is.)" */
    private static void backByThePictureAsItIs() {
        SandPalace x = new SandPalace();
        x.sign(8, 0, 7, 0, 7, 1);
        x.photo();
        smear(x, cellOf(0, 7, 3));
        DUE.is(24, "8 and 3 more, round", back(x, cellOf(0, 7, 3)), 2);
        x.undo();
        DUE.is(24, "the SIGN is gone", back(x, cellOf(0, 7, 3)), QUARREL);
        DUE.is(26, "harm(3)", x.harm(3), 1);
        DUE.is(25, "mend()", x.mend(), 0);
        x.sign(2, 0, 0, 0, 7, 1);
        DUE.is(26, "harm(3)", x.harm(3), 0);
        DUE.is(25, "mend()", x.mend(), 1);
        DUE.is(23, "seen", seen(x, cellOf(0, 7, 3)), 2);
    }

    /** "All SMEARED cells that can be": none is SMEARED, or none can be. */
    private static void mendNothing() {
        SandPalace x = new SandPalace();
        DUE.is(25, "of a new object", x.mend(), 0);
        x.disc(2, 450);
        x.photo();
        DUE.is(25, "none SMEARED", x.mend(), 0);
        DUE.is(23, "seen(0, 0)", x.seen(0, 0), 2);
        allSmeared(x);
        DUE.is(25, "all LOST", x.mend(), 0);
        DUE.is(26, "harm(0)", x.harm(0), 256);
    }

    /** "All SMEARED cells that can be are TOLD BACK": three QUARTERS of the hall by the fourth. */
    private static void mendAll() {
        for (int left = 0; left < 4; left++) {
            SandPalace x = new SandPalace();
            x.sign(5, 0, 0, 7, 3, 7);
            x.rim(3, 7);
            x.photo();
            for (int place = 0; place < 64; place++) {
                for (int q = 0; q < 4; q++) {
                    if (q != left) {
                        smear(x, cellOf(place % 8, place / 8, q));
                    }
                }
            }
            // a RIM that lies over a SIGN goes round with it, so that those cells are told back, but OFF
            DUE.is(25, "mend()", x.mend(), 192);
            DUE.is(25, "harm(0)", x.harm(0), 0);
            DUE.is(25, "harm(1)", x.harm(1), 12);
        }
    }

    /** "at once (by what was not SMEARED ahead)" */
    private static void mendAtOnce() {
        for (int only = 0; only < 4; only++) {
            SandPalace x = new SandPalace();
            x.sign(1, 0, 0, 0, 0, 4);
            x.photo();
            for (int q = 0; q < 4; q++) {
                if (q != only) {
                    smear(x, cellOf(0, 0, q));
                }
            }
            DUE.is(25, "three by one", x.mend(), 3);
            for (int q = 0; q < 4; q++) {
                DUE.is(25, "seen", seen(x, cellOf(0, 0, q)), new int[] {1, 5, 9, 4}[q]);
            }
        }
        // 0 and 1 are SMEARED, 2 and 3 unlike: neither is told by the other
        SandPalace y = new SandPalace();
        colour(y, cellOf(7, 7, 2), 3);
        smear(y, cellOf(7, 7, 0));
        smear(y, cellOf(7, 7, 1));
        DUE.is(25, "both in QUARREL", y.mend(), 0);
        DUE.is(25, "harm(3)", y.harm(3), 2);
    }

    /** "All SMEARED cells that can be": what is LOST or in QUARREL stays SMEARED. */
    private static void mendLeavesLostAndQuarrel() {
        SandPalace x = new SandPalace();
        for (int q = 0; q < 4; q++) {
            smear(x, cellOf(1, 2, q));
        }
        smear(x, cellOf(5, 5, 0));
        colour(x, cellOf(5, 5, 1), 1);
        smear(x, cellOf(6, 6, 3));
        DUE.is(25, "one of six", x.mend(), 1);
        DUE.is(26, "SMEARED", x.harm(0), 5);
        DUE.is(26, "LOST", x.harm(2), 4);
        DUE.is(26, "QUARREL", x.harm(3), 1);
        DUE.is(25, "again none", x.mend(), 0);
        DUE.is(23, "seen", seen(x, cellOf(6, 6, 3)), 0);
        DUE.is(23, "seen", seen(x, cellOf(5, 5, 0)), SMEARED);
        DUE.is(23, "seen", seen(x, cellOf(5, 5, 1)), 1);
    }

    /** "SMEARED (0), OFF (1), LOST (2), in QUARREL (3). BAD." */
    private static void harmWhat() {
        Edges.taken(DUE, 26, "harm", 0, 3, n -> new SandPalace().harm(n));
        Edges.taken(DUE, 26, "harm of all SMEARED", 0, 3, n -> allSmeared(new SandPalace()).harm(n));
    }

    /** "How many cells are SMEARED (0), OFF (1), LOST (2), in QUARREL (3)": none, and all that can be. */
    private static void harmNoneAndAll() {
        int[][] due = {{0, 0, 0, 0}, {0, 256, 0, 0}, {256, 0, 256, 0}, {64, 192, 0, 64}};
        SandPalace x = new SandPalace();
        SandPalace y = new SandPalace();
        y.disc(1, 450);
        SandPalace z = new SandPalace();
        z.disc(1, 450);
        allSmeared(z);
        SandPalace unlike = new SandPalace();
        unlike.sign(1, 0, 0, 7, 7, 1);
        unlike.photo();
        unlike.undo();
        for (int place = 0; place < 64; place++) {
            smear(unlike, cellOf(place % 8, place / 8, 3));
        }
        for (int what = 0; what < 4; what++) {
            DUE.is(26, "none: " + what, x.harm(what), due[0][what]);
            DUE.is(26, "all OFF: " + what, y.harm(what), due[1][what]);
            DUE.is(26, "all LOST: " + what, z.harm(what), due[2][what]);
            DUE.is(26, "a QUARTER in QUARREL: " + what, unlike.harm(what), due[3][what]);
        }
    }

    /** "OFF are cells of the PHOTO (not SMEARED) that look otherwise than the picture." */
    private static void offOfNotSmeared() {
        SandPalace x = new SandPalace();
        x.rim(1, 0);
        DUE.is(26, "bare in the PHOTO", x.harm(1), 4);
        x.smear(8, 8);
        DUE.is(26, "SMEARED", x.harm(1), 3);
        x.photo();
        DUE.is(26, "taken", x.harm(1), 0);
        x.undo();
        DUE.is(26, "bare in the picture", x.harm(1), 4);
        x.rim(2, 0);
        DUE.is(26, "another COLOUR", x.harm(1), 4);
        x.sign(1, 0, 0, 0, 0, 3);
        DUE.is(26, "QUARTERS 0 and 3 alike", x.harm(1), 2);
        for (int cell : new int[] {0, 15, 240, 255}) {
            colour(x, cell, 9);
        }
        DUE.is(26, "the corners", x.harm(1), 6);
    }

    /** "AGAIN must be poured all SHAPES that have a SMEARED cell": none, all. */
    private static void againNoneAndAll() {
        DUE.is(27, "of a new object", new SandPalace().again(), 0);
        DUE.is(27, "no SHAPE", allSmeared(new SandPalace()).again(), 0);
        DUE.is(27, "none SMEARED", Edges.ofTen().again(), 0);
        DUE.is(27, "all", allSmeared(Edges.ofTen()).again(), 1023);
        SandPalace x = new SandPalace();
        x.disc(1, 1);
        x.rim(1, 3);
        allSmeared(x);
        DUE.is(27, "one without cells", x.again(), 2);
        x.hem(0, 1, true);
        DUE.is(27, "but by a HEM", x.again(), 3);
    }

    /** "all SHAPES that have a SMEARED cell": also below others, not what is beside. */
    private static void againOfHiddenLayers() {
        SandPalace x = new SandPalace();
        x.rim(1, 2);
        x.block(1, 0, 0, 3, 3);
        x.smear(13, 8);
        DUE.is(27, "beside both", x.again(), 0);
        x.smear(10, 8);
        DUE.is(27, "the upper and the lower", x.again(), 3);
        x.photo();
        x.smear(11, 11);
        DUE.is(27, "the upper alone", x.again(), 2);
        x.undo();
        x.block(1, 0, 0, 3, 1);
        x.photo();
        x.smear(10, 10);
        DUE.is(27, "the lower, and what comes AFTER it elsewhere", x.again(), 3);
    }

    /** Each cell of a SHAPE counts, in each QUARTER, and none beside it. */
    private static void againOfEveryCell() {
        for (int q = 0; q < 4; q++) {
            for (int place = 0; place < 64; place++) {
                SandPalace x = new SandPalace();
                x.line(1, 7, 7, 7, 0);
                x.block(1, 0, 0, 0, 0);
                smear(x, cellOf(place % 8, place / 8, q));
                int due = (place % 8 == 7 ? 1 : 0) + (place == 0 ? 2 : 0);
                DUE.is(27, "place " + place + " of QUARTER " + q, x.again(), due);
            }
        }
    }

    /** "and all that come AFTER one of these (on and on)" */
    private static void againOnAndOn() {
        for (int smeared = 0; smeared < 10; smeared++) {
            SandPalace up = Edges.ofTen();
            SandPalace down = Edges.ofTen();
            SandPalace round = Edges.ofTen();
            for (int s = 0; s < 9; s++) {
                up.hem(s + 1, s, true);
                down.hem(s, s + 1, true);
                round.hem(s, s + 1, true);
            }
            round.hem(9, 0, true);
            int cell = cellOf(smeared % 8, smeared / 8, smeared % 4);
            smear(up, cell);
            smear(down, cell);
            smear(round, cell);
            DUE.is(27, "from " + smeared + " on", up.again(), 1023 & -(1 << smeared));
            DUE.is(27, "from " + smeared + " down", down.again(), (2 << smeared) - 1);
            DUE.is(27, "round", round.again(), 1023);
            up.hem(5, 4, false);
            DUE.is(27, "cut", up.again(), smeared < 5 ? 31 & -(1 << smeared) : 1023 & -(1 << smeared));
        }
    }
}
