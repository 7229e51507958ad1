/** The boundary cases of promises 32 to 36 and of what "Terms" says of the sheets and their LANES, a sentence each. */
public final class SheetEdgesTest {
    private static final int BAD = Edges.BAD, NOT = Edges.NOT, NULL = Edges.NULL, CAST = Edges.CAST;
    private static final int INDEX = Edges.INDEX, SIZE = Edges.SIZE, SMEARED = Edges.SMEARED;
    private static final int LEAST = Edges.LEAST, MOST = Edges.MOST;
    private static final int[] LENGTHS = {0, 1, 2, 17, 255, 256};
    private static final Due DUE = new Due();

    private SheetEdgesTest() {
    }

    public static void main(String[] args) {
        sheetsAreNoughtToThree();
        lanesAreNoughtToTwo();
        nothingAtFirst();
        itemsAreNoughtTo256();
        sizeBelowNought();
        aNewRow();
        aNewRowOfAnySheet();
        dropHowManyItems();
        dropOneAlone();
        itemIndex();
        itemLowestBits();
        itemCast();
        itemOneAlone();
        showCells();
        showItems();
        showNone();
        showColours();
        showOneIsNotAsTold();
        showAllOrNothing();
        showCast();
        showFromACellOn();
        keepCells();
        keepItems();
        keepNone();
        keepCast();
        keepSmeared();
        keepFromOneOn();
        keepAndShowAll();
        DUE.end();
    }

    private static SandPalace with(int sheet, int lane, int n) {
        SandPalace x = new SandPalace();
        x.sheet(sheet, lane, n);
        return x;
    }

    /** What item i of a sheet is, if it is a COLOUR or SMEARED: by the PHOTO's last cell. */
    private static int itemOf(SandPalace x, int sheet, int lane, int i) {
        int shown = x.show(sheet, lane, i, 255, 1);
        return shown == 1 ? x.seen(15, 15) : shown;
    }

    /** "sheets 0 .. 3" */
    private static void sheetsAreNoughtToThree() {
        Edges.taken(DUE, 32, "sheet", 0, 3, n -> new SandPalace().sheet(n, 0, 1));
        Edges.taken(DUE, 33, "drop", 0, 3, n -> new SandPalace().drop(n));
        Edges.taken(DUE, 34, "item", 0, 3, n -> new SandPalace().item(n, 0, 0, 0));
        Edges.taken(DUE, 35, "show", 0, 3, n -> new SandPalace().show(n, 0, 0, 0, 0));
        Edges.taken(DUE, 36, "keep", 0, 3, n -> new SandPalace().keep(n, 0, 0, 0, 0));
        SandPalace x = new SandPalace();
        for (int s = 0; s < 4; s++) {
            DUE.is(32, "each", x.sheet(s, s % 3, 10 + s), 10 + s);
        }
        for (int s = 0; s < 4; s++) {
            DUE.is(33, "each its own", x.drop(s), 10 + s);
        }
    }

    /** "a row of a LANE: 0 bytes, 1 shorts, 2 ints" */
    private static void lanesAreNoughtToTwo() {
        Edges.taken(DUE, 32, "sheet lane", 0, 2, n -> new SandPalace().sheet(3, n, 1));
        Edges.taken(DUE, 34, "item lane", 0, 2, n -> with(0, 1, 1).item(0, n, 0, 0));
        Edges.taken(DUE, 35, "show lane", 0, 2, n -> with(0, 1, 1).show(0, n, 0, 0, 1));
        Edges.taken(DUE, 36, "keep lane", 0, 2, n -> with(0, 1, 1).keep(0, n, 0, 0, 1));
        Edges.taken(DUE, 34, "item lane of nothing", 0, 2, n -> new SandPalace().item(0, n, 0, 0));
        Edges.taken(DUE, 35, "show lane of nothing", 0, 2, n -> new SandPalace().show(0, n, 0, 0, 1));
        Edges.taken(DUE, 36, "keep lane of nothing", 0, 2, n -> new SandPalace().keep(0, n, 0, 0, 1));
    }

    /** "nothing (at first)" */
    private static void nothingAtFirst() {
        SandPalace x = new SandPalace();
        for (int s = 0; s < 4; s++) {
            DUE.is(33, "drop", x.drop(s), NULL);
            for (int lane = 0; lane < 3; lane++) {
                DUE.is(34, "item", x.item(s, lane, 0, 0), NULL);
                DUE.is(35, "show", x.show(s, lane, 0, 0, 0), NULL);
                DUE.is(35, "show", x.show(s, lane, 0, 256, 0), NULL);
                DUE.is(36, "keep", x.keep(s, lane, 0, 0, 0), NULL);
                DUE.is(36, "keep", x.keep(s, lane, 0, 0, 256), NULL);
            }
        }
    }

    /** "of 0 to 256 items", "n. BAD: also n above 256" */
    private static void itemsAreNoughtTo256() {
        for (int lane = 0; lane < 3; lane++) {
            int l = lane;
            SandPalace x = new SandPalace();
            for (int n = 0; n <= 256; n++) {
                DUE.is(32, "sheet of " + n, x.sheet(2, lane, n), n);
            }
            Edges.refusedAbove(DUE, 32, "sheet above 256", 256, BAD, n -> new SandPalace().sheet(0, l, n));
        }
    }

    /** "SIZE: n below 0" */
    private static void sizeBelowNought() {
        for (int lane = 0; lane < 3; lane++) {
            int l = lane;
            Edges.refusedBelow(DUE, 32, "sheet below 0", 0, SIZE, n -> new SandPalace().sheet(0, l, n));
            SandPalace x = with(1, lane, 5);
            x.item(1, lane, 4, 9);
            DUE.is(32, "sheet(1, .., -1)", x.sheet(1, (lane + 1) % 3, -1), SIZE);
            DUE.is(32, "sheet(1, .., 257)", x.sheet(1, (lane + 1) % 3, 257), BAD);
            DUE.is(32, "the row that it has stays", itemOf(x, 1, lane, 4), 9);
            DUE.is(32, "with all its items", x.drop(1), 5);
            DUE.is(32, "sheet(1, .., -1)", x.sheet(1, lane, LEAST), SIZE);
            DUE.is(32, "nothing stays nothing", x.drop(1), NULL);
        }
    }

    /** "A SHEET holds a new row": of noughts, of its own LANE and length. */
    private static void aNewRow() {
        for (int lane = 0; lane < 3; lane++) {
            for (int next = 0; next < 3; next++) {
                SandPalace x = with(0, lane, 60);
                for (int i = 0; i < 60; i++) {
                    x.item(0, lane, i, 1 + i % 9);
                }
                DUE.is(32, "a shorter one", x.sheet(0, next, 30), 30);
                DUE.is(34, "its end", x.item(0, next, 30, 1), INDEX);
                DUE.is(32, "the same as long again", x.sheet(0, next, 60), 60);
                for (int i = 0; i < 60; i++) {
                    DUE.is(32, "item " + i, itemOf(x, 0, next, i), 0);
                }
                DUE.is(34, "its end", x.item(0, next, 60, 1), INDEX);
                DUE.is(34, "its LANE", x.item(0, (next + 1) % 3, 0, 1), CAST);
            }
        }
        SandPalace y = with(0, 2, 256);
        y.item(0, 2, 255, 7);
        y.drop(0);
        y.sheet(0, 2, 256);
        DUE.is(32, "also behind a drop", itemOf(y, 0, 2, 255), 0);
    }

    /** "A SHEET holds a new row": that one, and no other. */
    private static void aNewRowOfAnySheet() {
        SandPalace x = new SandPalace();
        for (int s = 0; s < 4; s++) {
            x.sheet(s, 0, 3);
            x.item(s, 0, 2, 1 + s);
        }
        x.sheet(1, 1, 3);
        for (int s = 0; s < 4; s++) {
            DUE.is(32, "the others stay", itemOf(x, s, s == 1 ? 1 : 0, 2), s == 1 ? 0 : 1 + s);
        }
    }

    /** "A SHEET holds nothing: how many items it had. BAD; NULL." */
    private static void dropHowManyItems() {
        for (int lane = 0; lane < 3; lane++) {
            for (int n : LENGTHS) {
                SandPalace x = with(3, lane, n);
                DUE.is(33, "how many", x.drop(3), n);
                DUE.is(33, "nothing now", x.drop(3), NULL);
                DUE.is(34, "nothing now", x.item(3, lane, 0, 0), NULL);
                DUE.is(35, "nothing now", x.show(3, lane, 0, 0, 0), NULL);
                DUE.is(36, "nothing now", x.keep(3, lane, 0, 0, 0), NULL);
            }
        }
    }

    /** "A SHEET holds nothing": that one, and no other. */
    private static void dropOneAlone() {
        SandPalace x = new SandPalace();
        for (int s = 0; s < 4; s++) {
            x.sheet(s, 2, 1 + s);
        }
        DUE.is(33, "drop(0)", x.drop(0), 1);
        DUE.is(33, "drop(3)", x.drop(3), 4);
        DUE.is(33, "drop(1)", x.drop(1), 2);
        DUE.is(33, "drop(0)", x.drop(0), NULL);
        DUE.is(33, "drop(2)", x.drop(2), 3);
    }

    /** "Item i of a SHEET .. INDEX" */
    private static void itemIndex() {
        for (int lane = 0; lane < 3; lane++) {
            int l = lane;
            for (int length : LENGTHS) {
                Edges.refusedBelow(DUE, 34, "item below 0", 0, INDEX, n -> with(0, l, length).item(0, l, n, 1));
                Edges.refusedAbove(DUE, 34, "item behind the last", length - 1, INDEX, n -> with(0, l, length).item(0, l, n, 1));
                SandPalace x = with(0, lane, length);
                for (int i = 0; i < length; i++) {
                    DUE.is(34, "item " + i + " of " + length, x.item(0, lane, i, 1), 1);
                }
            }
        }
    }

    /** "becomes v, its lowest bits": 8 of a byte, 16 of a short, all of an int. */
    private static void itemLowestBits() {
        int[] parts = {0, 1, 9, 10, 127, 128, 250, 251, 252, 255};
        int[] tops = {0, 1 << 8, 255 << 8, 1 << 15, 1 << 16, 0xffff0000, 0xffffff00, 1 << 31, 1 << 24};
        for (int lane = 0; lane < 3; lane++) {
            SandPalace x = with(2, lane, 1);
            for (int part : parts) {
                for (int top : tops) {
                    int v = top | part;
                    int kept = lane == 0 ? v << 24 >> 24 : lane == 1 ? v << 16 >> 16 : v;
                    DUE.is(34, "item", x.item(2, lane, 0, v), 1);
                    int due = kept == SMEARED || kept >= 0 && kept <= 9 ? kept : NOT;
                    DUE.is(34, "LANE " + lane + " of " + v, itemOf(x, 2, lane, 0), due);
                }
            }
        }
        for (int lane = 0; lane < 3; lane++) {
            SandPalace y = with(2, lane, 1);
            for (int v : new int[] {LEAST, MOST}) {
                DUE.is(34, "item " + v, y.item(2, lane, 0, v), 1);
            }
            y.item(2, lane, 0, LEAST);
            DUE.is(34, "the lowest bits of LEAST", itemOf(y, 2, lane, 0), lane < 2 ? 0 : NOT);
            y.item(2, lane, 0, MOST);
            DUE.is(34, "the lowest bits of MOST: -1, or all", itemOf(y, 2, lane, 0), NOT);
        }
    }

    /** "taken as a row of a LANE .. CAST": of any length, of none too. */
    private static void itemCast() {
        for (int length : LENGTHS) {
            for (int lane = 0; lane < 3; lane++) {
                for (int as = 0; as < 3; as++) {
                    SandPalace x = with(1, lane, length);
                    int due = as != lane ? CAST : length == 0 ? INDEX : 1;
                    DUE.is(34, "LANE " + lane + " as " + as, x.item(1, as, 0, 3), due);
                }
            }
        }
    }

    /** "Item i of a SHEET .. becomes v": that one, and no other. */
    private static void itemOneAlone() {
        for (int i : new int[] {0, 1, 31, 62, 63}) {
            SandPalace x = with(0, 0, 64);
            x.item(0, 0, i, 8);
            for (int other = 0; other < 64; other++) {
                DUE.is(34, "item " + other, itemOf(x, 0, 0, other), other == i ? 8 : 0);
            }
        }
    }

    /** "from a cell on (0 .. 256: 16 y + x)", "BAD: also cells beyond" */
    private static void showCells() {
        Edges.taken(DUE, 35, "cell of none", 0, 256, n -> with(0, 0, 256).show(0, 0, 0, n, 0));
        Edges.taken(DUE, 35, "cell of one", 0, 255, n -> with(0, 0, 256).show(0, 0, 0, n, 1));
        Edges.taken(DUE, 35, "cell of 16", 0, 240, n -> with(0, 0, 256).show(0, 0, 0, n, 16));
        Edges.taken(DUE, 35, "cell of all", 0, 0, n -> with(0, 0, 256).show(0, 0, 0, n, 256));
        Edges.taken(DUE, 35, "n from cell 0", 0, 256, n -> with(0, 0, 256).show(0, 0, 0, 0, n));
        Edges.taken(DUE, 35, "n from cell 200", 0, 56, n -> with(0, 0, 256).show(0, 0, 0, 200, n));
        Edges.taken(DUE, 35, "n from cell 255", 0, 1, n -> with(0, 0, 256).show(0, 0, 0, 255, n));
        Edges.taken(DUE, 35, "n from cell 256", 0, 0, n -> with(0, 0, 256).show(0, 0, 0, 256, n));
        DUE.is(35, "both too great, round to small", with(0, 0, 256).show(0, 0, 0, MOST, MOST), BAD);
        DUE.is(35, "both too small, round to 0", with(0, 0, 256).show(0, 0, 0, LEAST, LEAST), BAD);
        DUE.is(35, "-1 cell, one", with(0, 0, 256).show(0, 0, 0, -1, 1), BAD);
        DUE.is(35, "one cell back", with(0, 0, 256).show(0, 0, 1, 1, -1), BAD);
    }

    /** "n items of a SHEET .. from one on .. INDEX" */
    private static void showItems() {
        for (int lane = 0; lane < 3; lane++) {
            int l = lane;
            for (int length : LENGTHS) {
                for (int n : new int[] {0, 1, 2, 17, 255, 256}) {
                    int last = length - n;
                    Edges.refusedBelow(DUE, 35, "from below 0", 0, INDEX, from -> with(0, l, length).show(0, l, from, 0, n));
                    Edges.refusedAbove(DUE, 35, "from too far", last, INDEX, from -> with(0, l, length).show(0, l, from, 0, n));
                    for (int from = 0; from <= last; from++) {
                        DUE.is(35, "from " + from + " of " + length, with(0, lane, length).show(0, lane, from, 0, n), n);
                    }
                }
            }
        }
    }

    /** None of a row of none, at its end; none to the end of the PHOTO; and nothing is looked at. */
    private static void showNone() {
        SandPalace x = with(0, 0, 0);
        DUE.is(35, "none of none", x.show(0, 0, 0, 0, 0), 0);
        DUE.is(35, "none of none, at the end", x.show(0, 0, 0, 256, 0), 0);
        DUE.is(35, "one of none", x.show(0, 0, 0, 0, 1), INDEX);
        DUE.is(35, "none behind the end", x.show(0, 0, 1, 0, 0), INDEX);
        DUE.is(35, "none ahead of it", x.show(0, 0, -1, 0, 0), INDEX);
        x.sheet(0, 0, 1);
        x.item(0, 0, 0, 77);
        DUE.is(35, "none from one that is not as told", x.show(0, 0, 0, 0, 0), 0);
        DUE.is(35, "none behind it", x.show(0, 0, 1, 256, 0), 0);
        DUE.is(35, "the PHOTO stays", x.harm(1), 0);
    }

    /** "COLOURS, -5: SMEARED" */
    private static void showColours() {
        for (int lane = 0; lane < 3; lane++) {
            SandPalace x = with(0, lane, 1);
            for (int v = -128; v <= 127; v++) {
                x.item(0, lane, 0, v);
                boolean is = v == SMEARED || v >= 0 && v <= 9;
                if (v % 4 == 0 || v > -12 && v < 16) {
                    DUE.is(35, "show " + v, x.show(0, lane, 0, 255, 1), is ? 1 : NOT);
                }
                if (is) {
                    DUE.is(35, "seen " + v, x.seen(15, 15), v);
                }
            }
        }
    }

    /** "NOT: one is not as told": the first, the last, any, but none beside those that are shown. */
    private static void showOneIsNotAsTold() {
        for (int wrong : new int[] {-6, -4, -1, 10}) {
            for (int i = 0; i < 8; i++) {
                SandPalace x = with(0, 1, 8);
                x.item(0, 1, i, wrong);
                for (int from = 0; from < 8; from++) {
                    for (int n = 0; n <= 8 - from; n++) {
                        DUE.is(35, "show", x.show(0, 1, from, 0, n), i >= from && i < from + n ? NOT : n);
                    }
                }
            }
        }
    }

    /** "What is refused changes nothing." */
    private static void showAllOrNothing() {
        SandPalace x = with(0, 2, 4);
        for (int i = 0; i < 4; i++) {
            x.item(0, 2, i, 5);
        }
        x.item(0, 2, 3, 10);
        DUE.is(35, "the last is not as told", x.show(0, 2, 0, 0, 4), NOT);
        DUE.is(35, "the row is too short", x.show(0, 2, 1, 0, 4), INDEX);
        DUE.is(35, "the PHOTO is too short", x.show(0, 2, 0, 254, 3), BAD);
        DUE.is(35, "nothing OFF", x.harm(1), 0);
        DUE.is(35, "three are", x.show(0, 2, 0, 253, 3), 3);
        DUE.is(35, "three OFF", x.harm(1), 3);
    }

    /** "n items of a SHEET, taken as a row of a LANE .. CAST": of any length, and of no items too. */
    private static void showCast() {
        for (int length : LENGTHS) {
            for (int lane = 0; lane < 3; lane++) {
                for (int as = 0; as < 3; as++) {
                    DUE.is(35, "LANE " + lane + " as " + as, with(1, lane, length).show(1, as, 0, 0, length), as == lane ? length : CAST);
                    DUE.is(35, "none of it", with(1, lane, length).show(1, as, 0, 0, 0), as == lane ? 0 : CAST);
                }
            }
        }
    }

    /** "16 y + x": over the ends of rows, and no cell beside. */
    private static void showFromACellOn() {
        for (int cell : new int[] {0, 1, 14, 15, 16, 100, 239, 240, 251}) {
            SandPalace x = with(2, 0, 7);
            for (int i = 0; i < 7; i++) {
                x.item(2, 0, i, i == 3 ? SMEARED : 1 + i);
            }
            DUE.is(35, "show", x.show(2, 0, 1, cell, 5), 5);
            for (int other = 0; other < 256; other++) {
                int i = other - cell + 1;
                int due = i >= 1 && i <= 5 ? (i == 3 ? SMEARED : 1 + i) : 0;
                DUE.is(35, "cell " + other + " of " + cell, x.seen(other % 16, other / 16), due);
            }
        }
    }

    /** "n cells of the PHOTO from one on (as above)", "BAD" */
    private static void keepCells() {
        Edges.taken(DUE, 36, "cell of none", 0, 256, n -> with(0, 0, 256).keep(0, 0, 0, n, 0));
        Edges.taken(DUE, 36, "cell of one", 0, 255, n -> with(0, 0, 256).keep(0, 0, 0, n, 1));
        Edges.taken(DUE, 36, "cell of 16", 0, 240, n -> with(0, 0, 256).keep(0, 0, 0, n, 16));
        Edges.taken(DUE, 36, "cell of all", 0, 0, n -> with(0, 0, 256).keep(0, 0, 0, n, 256));
        Edges.taken(DUE, 36, "n from cell 0", 0, 256, n -> with(0, 0, 256).keep(0, 0, 0, 0, n));
        Edges.taken(DUE, 36, "n from cell 200", 0, 56, n -> with(0, 0, 256).keep(0, 0, 0, 200, n));
        Edges.taken(DUE, 36, "n from cell 255", 0, 1, n -> with(0, 0, 256).keep(0, 0, 0, 255, n));
        Edges.taken(DUE, 36, "n from cell 256", 0, 0, n -> with(0, 0, 256).keep(0, 0, 0, 256, n));
        DUE.is(36, "both too great, round to small", with(0, 0, 256).keep(0, 0, 0, MOST, MOST), BAD);
        DUE.is(36, "both too small, round to 0", with(0, 0, 256).keep(0, 0, 0, LEAST, LEAST), BAD);
        DUE.is(36, "one cell back", with(0, 0, 256).keep(0, 0, 1, 1, -1), BAD);
    }

    /** "come to a SHEET .. from one on .. INDEX" */
    private static void keepItems() {
        for (int lane = 0; lane < 3; lane++) {
            int l = lane;
            for (int length : LENGTHS) {
                for (int n : new int[] {0, 1, 2, 17, 255, 256}) {
                    int last = length - n;
                    Edges.refusedBelow(DUE, 36, "from below 0", 0, INDEX, from -> with(0, l, length).keep(0, l, from, 0, n));
                    Edges.refusedAbove(DUE, 36, "from too far", last, INDEX, from -> with(0, l, length).keep(0, l, from, 0, n));
                    for (int from = 0; from <= last; from++) {
                        DUE.is(36, "from " + from + " of " + length, with(0, lane, length).keep(0, lane, from, 0, n), n);
                    }
                }
            }
        }
    }

    /** "n cells of the PHOTO .. come to a SHEET": none, of a row of none, at its end. */
    private static void keepNone() {
        SandPalace x = with(0, 0, 0);
        DUE.is(36, "none to none", x.keep(0, 0, 0, 0, 0), 0);
        DUE.is(36, "none to none, of the end", x.keep(0, 0, 0, 256, 0), 0);
        DUE.is(36, "one to none", x.keep(0, 0, 0, 0, 1), INDEX);
        DUE.is(36, "none behind the end", x.keep(0, 0, 1, 0, 0), INDEX);
        DUE.is(36, "none ahead of it", x.keep(0, 0, -1, 0, 0), INDEX);
        x.sheet(0, 0, 1);
        x.item(0, 0, 0, 7);
        DUE.is(36, "none at the end", x.keep(0, 0, 1, 256, 0), 0);
        DUE.is(36, "the row stays", itemOf(x, 0, 0, 0), 7);
    }

    /** "come to a SHEET, taken as a row of a LANE .. CAST": of any length, and of no items too. */
    private static void keepCast() {
        for (int length : LENGTHS) {
            for (int lane = 0; lane < 3; lane++) {
                for (int as = 0; as < 3; as++) {
                    DUE.is(36, "LANE " + lane + " as " + as, with(1, lane, length).keep(1, as, 0, 0, length), as == lane ? length : CAST);
                    DUE.is(36, "none of it", with(1, lane, length).keep(1, as, 0, 0, 0), as == lane ? 0 : CAST);
                }
            }
        }
    }

    /** "(SMEARED: -5)" */
    private static void keepSmeared() {
        for (int lane = 0; lane < 3; lane++) {
            SandPalace x = with(0, lane, 3);
            x.smear(0, 0);
            x.smear(2, 0);
            DUE.is(36, "keep", x.keep(0, lane, 0, 0, 3), 3);
            DUE.is(36, "still SMEARED", x.harm(0), 2);
            x.photo();
            DUE.is(35, "show", x.show(0, lane, 0, 253, 3), 3);
            DUE.is(36, "the first", x.seen(13, 15), SMEARED);
            DUE.is(36, "between", x.seen(14, 15), 0);
            DUE.is(36, "the last", x.seen(15, 15), SMEARED);
            DUE.is(36, "a lowest byte of it", x.harm(0), 2);
        }
    }

    /** The items kept, and none beside; the cells kept, over the ends of rows; the PHOTO stays. */
    private static void keepFromOneOn() {
        for (int cell : new int[] {0, 13, 100, 251}) {
            for (int from : new int[] {0, 3, 7}) {
                SandPalace x = with(0, 1, 12);
                for (int i = 0; i < 12; i++) {
                    x.item(0, 1, i, 9);
                }
                x.sheet(1, 2, 5);
                for (int i = 0; i < 5; i++) {
                    x.item(1, 2, i, 1 + i);
                }
                x.show(1, 2, 0, cell, 5);
                DUE.is(36, "keep", x.keep(0, 1, from, cell, 5), 5);
                DUE.is(36, "the PHOTO stays", x.harm(1), 5);
                for (int i = 0; i < 12; i++) {
                    int due = i >= from && i < from + 5 ? 1 + i - from : 9;
                    DUE.is(36, "item " + i, itemOf(x, 0, 1, i), due);
                }
            }
        }
    }

    /** All 256 cells, kept and shown again, on each LANE. */
    private static void keepAndShowAll() {
        for (int lane = 0; lane < 3; lane++) {
            SandPalace x = with(3, lane, 256);
            x.sign(3, 0, 0, 7, 7, 8);
            x.disc(9, 100);
            x.photo();
            x.cat(0, 0, 1, 1, 15);
            x.cat(0, 15, 1, -1, 15);
            DUE.is(36, "keep", x.keep(3, lane, 0, 0, 256), 256);
            x.undo();
            x.undo();
            x.photo();
            DUE.is(35, "show", x.show(3, lane, 0, 0, 256), 256);
            DUE.is(26, "SMEARED", x.harm(0), 32);
            x.sign(3, 0, 0, 7, 7, 8);
            x.disc(9, 100);
            DUE.is(26, "OFF", x.harm(1), 0);
            x.undo();
            DUE.is(26, "OFF", x.harm(1) > 0 ? 1 : 0, 1);
        }
    }
}
