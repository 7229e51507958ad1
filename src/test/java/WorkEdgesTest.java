/** The boundary cases of promises 14 to 19 and of what "Terms" says of AFTER, a DAY's work and PLAN, a sentence each. */
public final class WorkEdgesTest {
    private static final int BAD = Edges.BAD, NONE = Edges.NONE, LEAST = Edges.LEAST, MOST = Edges.MOST;
    private static final Due DUE = new Due();

    private WorkEdgesTest() {
    }

    public static void main(String[] args) {
        hemNamesTwoShapes();
        hemAlsoItself();
        hemWhetherItDid();
        afterNamesTwoShapes();
        afterAlsoItself();
        afterByOneCell();
        afterOnlyOneToldAhead();
        afterOfAShapeWithoutCells();
        afterByHemEitherWay();
        afterByHemAndCell();
        sandIsOneTo256();
        sandIsFirst128();
        sandRefusedStays();
        daysOfNothing();
        daysOneToTen();
        sizesTogetherNoMoreThanSand();
        oneSizeAboveSand();
        shapesWithoutCells();
        reachNeverLess();
        reachNeverLessThanAnyAhead();
        reachAloneKeepsNothingApart();
        afterOfDaysAhead();
        neverAheadOfWhatItComesAfter();
        fewestAheadOfGreatest();
        greatestNumberFirst();
        greatestOnLaterDays();
        hemsGoRound();
        hemsGoRoundByCells();
        hemsThatDoNotGoRound();
        dayEdges();
        dayBelowNoughtWithoutPlan();
        pouredEdges();
        pouredBelowNoughtWithoutPlan();
        pouredByReach();
        pouredOfLikeOnesTheLeast();
        pouredOfLikeOnesAfterNoOtherLeft();
        planOfThePictureAsItIs();
        fiveHundredAndTwelveCalls();
        DUE.end();
    }

    private static SandPalace of(int shapes) {
        SandPalace x = new SandPalace();
        for (int s = 0; s < shapes; s++) {
            x.block(1, s % 8, s / 8, s % 8, s / 8);
        }
        return x;
    }

    private static void plan(String what, SandPalace x, int... days) {
        DUE.is(17, what + ": days()", x.days(), days.length);
        for (int i = 0; i < days.length; i++) {
            DUE.is(18, what + ": day(" + i + ")", x.day(i), days[i]);
        }
        DUE.is(18, what + ": behind the last DAY", x.day(days.length), BAD);
    }

    private static void order(String what, SandPalace x, int... shapes) {
        for (int i = 0; i < shapes.length; i++) {
            DUE.is(19, what + ": poured(" + i + ")", x.poured(i), shapes[i]);
        }
        DUE.is(19, what + ": behind the last place", x.poured(shapes.length), BAD);
    }

    private static void noPlan(String what, SandPalace x) {
        DUE.is(17, what + ": days()", x.days(), NONE);
        DUE.is(18, what + ": day(0)", x.day(0), NONE);
        DUE.is(19, what + ": poured(0)", x.poured(0), NONE);
    }

    /** "A SHAPE HEMS another one .. BAD" */
    private static void hemNamesTwoShapes() {
        Edges.taken(DUE, 14, "hem shape of ten", 0, 8, n -> of(10).hem(n, 9, true));
        Edges.taken(DUE, 14, "hem other of ten", 1, 9, n -> of(10).hem(0, n, true));
        Edges.taken(DUE, 14, "hem shape of two", 0, 0, n -> of(2).hem(n, 1, false));
        Edges.taken(DUE, 14, "hem other of two", 1, 1, n -> of(2).hem(0, n, false));
        Edges.refusedBelow(DUE, 14, "hem shape of one", MOST, BAD, n -> of(1).hem(n, 0, true));
        Edges.refusedBelow(DUE, 14, "hem other of one", MOST, BAD, n -> of(1).hem(0, n, true));
        Edges.refusedBelow(DUE, 14, "hem of none", MOST, BAD, n -> of(0).hem(n, n + 1, true));
        SandPalace x = of(3);
        x.undo();
        DUE.is(14, "of one that went", x.hem(2, 0, true), BAD);
        DUE.is(14, "of one that went", x.hem(0, 2, true), BAD);
    }

    /** "BAD: also itself." */
    private static void hemAlsoItself() {
        for (int s = 0; s < 10; s++) {
            SandPalace x = of(10);
            DUE.is(14, "itself", x.hem(s, s, true), BAD);
            DUE.is(14, "itself, not", x.hem(s, s, false), BAD);
            DUE.is(14, "it comes AFTER none", x.told(s, 4), 0);
            DUE.is(14, "days()", x.days(), 1);
        }
    }

    /** "whether it did (1, 0)" */
    private static void hemWhetherItDid() {
        SandPalace x = of(10);
        for (int s = 0; s < 10; s++) {
            int o = 9 - s;
            DUE.is(14, "not yet", x.hem(s, o, false), 0);
            DUE.is(14, "not yet", x.hem(s, o, true), 0);
            DUE.is(14, "it did", x.hem(s, o, true), 1);
            DUE.is(14, "it did", x.hem(s, o, false), 1);
            DUE.is(14, "no more", x.hem(s, o, false), 0);
            DUE.is(14, "no more", x.after(s, o), 0);
        }
    }

    /** "Whether a SHAPE comes AFTER another one: 1, 0. BAD" */
    private static void afterNamesTwoShapes() {
        Edges.taken(DUE, 15, "after shape of ten", 0, 8, n -> of(10).after(n, 9));
        Edges.taken(DUE, 15, "after other of ten", 1, 9, n -> of(10).after(0, n));
        Edges.taken(DUE, 15, "after shape of two", 0, 0, n -> of(2).after(n, 1));
        Edges.taken(DUE, 15, "after other of two", 1, 1, n -> of(2).after(0, n));
        DUE.is(15, "the last after the first", of(10).after(9, 0), 0);
        DUE.is(15, "the first after the last", of(10).after(0, 9), 0);
        Edges.refusedBelow(DUE, 15, "after of one", MOST, BAD, n -> of(1).after(n, 0));
        Edges.refusedBelow(DUE, 15, "after of none", MOST, BAD, n -> of(0).after(0, n));
    }

    /** "BAD: also itself." */
    private static void afterAlsoItself() {
        SandPalace x = of(10);
        for (int s = 0; s < 10; s++) {
            DUE.is(15, "itself", x.after(s, s), BAD);
        }
    }

    /** "if both have a cell" */
    private static void afterByOneCell() {
        SandPalace x = new SandPalace();
        x.block(1, 0, 0, 3, 3);
        x.block(1, 3, 3, 7, 7);
        x.block(1, 4, 0, 7, 2);
        x.block(1, 0, 4, 2, 7);
        DUE.is(15, "a corner", x.after(1, 0), 1);
        DUE.is(15, "side by side", x.after(2, 0), 0);
        DUE.is(15, "side by side", x.after(2, 1), 0);
        DUE.is(15, "side by side", x.after(3, 1), 0);
        DUE.is(15, "side by side", x.after(3, 0), 0);
        for (int place = 0; place < 64; place++) {
            SandPalace y = new SandPalace();
            y.disc(1, 450);
            y.line(1, place % 8, place / 8, place % 8, place / 8);
            DUE.is(15, "each place", y.after(1, 0), 1);
        }
    }

    /** "another one that is told ahead of it" */
    private static void afterOnlyOneToldAhead() {
        SandPalace x = new SandPalace();
        for (int s = 0; s < 10; s++) {
            x.rim(1, 7);
        }
        for (int s = 0; s < 10; s++) {
            for (int o = 0; o < 10; o++) {
                DUE.is(15, "after(" + s + ", " + o + ")", x.after(s, o), s == o ? BAD : s > o ? 1 : 0);
            }
        }
    }

    /** "if both have a cell": a DISC of 1 has none. */
    private static void afterOfAShapeWithoutCells() {
        SandPalace x = new SandPalace();
        x.disc(1, 1);
        x.disc(1, 1);
        x.disc(1, 450);
        x.disc(1, 1);
        DUE.is(15, "none of both has a cell", x.after(1, 0), 0);
        DUE.is(15, "one has none", x.after(2, 0), 0);
        DUE.is(15, "the other has none", x.after(3, 2), 0);
        x.hem(3, 0, true);
        DUE.is(15, "by a HEM", x.after(3, 0), 1);
    }

    /** "if it is told to HEM it (any two, told so)" */
    private static void afterByHemEitherWay() {
        SandPalace x = of(10);
        x.hem(0, 9, true);
        DUE.is(15, "one told ahead AFTER one told behind", x.after(0, 9), 1);
        DUE.is(15, "not the other way", x.after(9, 0), 0);
        x.hem(9, 0, true);
        DUE.is(15, "both ways", x.after(9, 0) + x.after(0, 9), 2);
        x.hem(9, 8, true);
        DUE.is(15, "of two themselves", x.after(0, 8), 0);
        DUE.is(8, "how many", x.told(9, 4), 2);
    }

    /** "if both have a cell, and if it is told to HEM it": both at once, one without the other. */
    private static void afterByHemAndCell() {
        SandPalace x = new SandPalace();
        x.rim(1, 0);
        x.rim(1, 0);
        DUE.is(14, "a cell is no HEM", x.hem(1, 0, true), 0);
        DUE.is(8, "counted once", x.told(1, 4), 1);
        DUE.is(14, "no HEM more", x.hem(1, 0, false), 1);
        DUE.is(15, "by the cell still", x.after(1, 0), 1);
    }

    /** "a DAY's SAND (1 .. 256" */
    private static void sandIsOneTo256() {
        Edges.taken(DUE, 16, "sand", 1, 256, n -> new SandPalace().sand(n));
        SandPalace x = new SandPalace();
        int was = 128;
        for (int n = 1; n <= 256; n++) {
            DUE.is(16, "what it was", x.sand(n), was);
            was = n;
        }
    }

    /** "128 at first" */
    private static void sandIsFirst128() {
        DUE.is(16, "sand(1)", new SandPalace().sand(1), 128);
        SandPalace x = new SandPalace();
        x.block(1, 0, 0, 7, 3);
        plan("SIZE 128", x, 1);
        x.block(1, 0, 4, 0, 4);
        plan("132 together", x, 2, 1);
        SandPalace y = new SandPalace();
        y.block(1, 0, 0, 7, 1);
        y.block(1, 0, 2, 7, 3);
        plan("128 together", y, 3);
        SandPalace z = new SandPalace();
        z.block(1, 0, 0, 2, 7);
        z.block(1, 3, 0, 5, 2);
        plan("96 and 36", z, 2, 1);
        z.block(1, 0, 0, 3, 7);
        plan("SIZE 128 over both", z, 2, 1, 4);
        z.undo();
        z.block(1, 0, 0, 6, 4);
        noPlan("SIZE 140", z);
    }

    /** "What is refused changes nothing.": SAND, and the PLAN by it. */
    private static void sandRefusedStays() {
        SandPalace x = of(10);
        x.sand(20);
        plan("ahead", x, 992, 31);
        DUE.is(16, "sand(0)", x.sand(0), BAD);
        DUE.is(16, "sand(257)", x.sand(257), BAD);
        plan("behind", x, 992, 31);
        DUE.is(16, "what it was", x.sand(128), 20);
    }

    /** "PLAN: all SHAPES in the fewest DAYS": of no SHAPES none. */
    private static void daysOfNothing() {
        SandPalace x = new SandPalace();
        plan("a bare hall", x);
        order("a bare hall", x);
        x.sand(1);
        plan("SAND 1", x);
        x.rim(1, 0);
        noPlan("one SHAPE", x);
        x.undo();
        plan("bare again", x);
        order("bare again", x);
    }

    /** "all SHAPES in the fewest DAYS": all on one, and a DAY each. */
    private static void daysOneToTen() {
        for (int shapes = 1; shapes <= 10; shapes++) {
            SandPalace x = of(shapes);
            plan(shapes + " on one DAY", x, (1 << shapes) - 1);
            x.sand(4);
            DUE.is(17, "a DAY each", x.days(), shapes);
            for (int i = 0; i < shapes; i++) {
                DUE.is(18, "the greatest left", x.day(i), 1 << shapes - 1 - i);
                DUE.is(19, "the greatest left", x.poured(i), shapes - 1 - i);
            }
            DUE.is(18, "behind the last", x.day(shapes), BAD);
            DUE.is(19, "behind the last", x.poured(shapes), BAD);
        }
    }

    /** "SIZES together no more than a DAY's SAND" */
    private static void sizesTogetherNoMoreThanSand() {
        for (int shapes = 2; shapes <= 10; shapes++) {
            SandPalace x = of(shapes);
            x.sand(4 * shapes);
            plan("just as much", x, (1 << shapes) - 1);
            x.sand(4 * shapes - 1);
            plan("one too much", x, (1 << shapes) - 2, 1);
            x.sand(4 * shapes + 1);
            plan("one to spare", x, (1 << shapes) - 1);
        }
        SandPalace y = new SandPalace();
        y.block(1, 0, 0, 7, 3);
        y.block(1, 0, 4, 7, 7);
        y.sand(256);
        plan("all of the hall", y, 3);
        y.sand(255);
        plan("all but one", y, 2, 1);
    }

    /** "(There is none, if .. one SHAPE's SIZE is above SAND.)" */
    private static void oneSizeAboveSand() {
        for (int k = 0; k < 8; k++) {
            SandPalace x = new SandPalace();
            x.rim(1, k);
            x.sand(8 * k + 4);
            plan("SIZE is SAND", x, 1);
            x.sand(8 * k + 3);
            noPlan("SIZE above SAND", x);
        }
        SandPalace y = new SandPalace();
        y.disc(1, 450);
        noPlan("256 above 128", y);
        y.sand(256);
        plan("256", y, 1);
        y.sand(255);
        noPlan("256 above 255", y);
        for (int place = 0; place < 10; place++) {
            SandPalace z = new SandPalace();
            for (int s = 0; s < 10; s++) {
                z.block(1, s % 8, s / 8, s % 8, s == place ? s / 8 + 1 : s / 8);
            }
            z.sand(7);
            noPlan("SHAPE " + place + " alone is above", z);
            z.sand(8);
            DUE.is(17, "none is", z.days() > 0 ? 1 : 0, 1);
        }
    }

    /** A DISC of 1 has no cells, REACH 0, and needs no SAND; it is a SHAPE of the PLAN all the same. */
    private static void shapesWithoutCells() {
        SandPalace x = new SandPalace();
        x.sand(1);
        for (int s = 0; s < 10; s++) {
            x.disc(1, 1);
        }
        plan("ten of SIZE 0", x, 1023);
        order("ten of SIZE 0", x, 0, 1, 2, 3, 4, 5, 6, 7, 8, 9);
        SandPalace y = new SandPalace();
        y.rim(1, 7);
        y.disc(1, 1);
        y.sand(60);
        plan("beside SAND itself", y, 3);
        order("REACH 0 first", y, 1, 0);
        y.hem(1, 0, true);
        plan("of less REACH, AFTER it", y, 1, 2);
    }

    /** "REACH never less than that of one ahead (no sleeve over wet work)": like REACH is not less. */
    private static void reachNeverLess() {
        for (int k = 1; k < 8; k++) {
            SandPalace x = new SandPalace();
            x.block(1, k, 0, k, 0);
            x.block(1, k, 1, k, 1);
            x.block(1, k - 1, 0, k - 1, 0);
            x.hem(1, 0, true);
            plan("AFTER one of like REACH", x, 7);
            x.hem(0, 2, true);
            plan("AFTER one of less REACH", x, 7);
            x.hem(0, 2, false);
            x.hem(2, 0, true);
            plan("AFTER one of more REACH", x, 3, 4);
        }
    }

    /** One that comes AFTER two that reach further goes on a DAY with neither, told ahead of them or behind. */
    private static void reachNeverLessThanAnyAhead() {
        for (int inner = 0; inner < 3; inner++) {
            SandPalace x = new SandPalace();
            for (int s = 0; s < 3; s++) {
                int v = s == inner ? 0 : 3 + s;
                x.block(1, 0, v, s == inner ? 0 : 1 + s, v);
            }
            int other = inner == 0 ? 1 : 0;
            int last = 3 - inner - other;
            x.hem(inner, other, true);
            x.hem(inner, last, true);
            x.sand(Math.max(x.told(other, 2), x.told(last, 2)) + 4);
            plan("SHAPE " + inner + " AFTER both", x, 1 << last, 1 << other, 1 << inner);
        }
    }

    /** "one behind the other, REACH never less": the order on a DAY is not that in which they are told. */
    private static void reachAloneKeepsNothingApart() {
        SandPalace x = new SandPalace();
        for (int k = 7; k >= 0; k--) {
            x.line(1, k, k, k, k);
        }
        plan("told inward, none AFTER another", x, 255);
        order("poured outward", x, 7, 6, 5, 4, 3, 2, 1, 0);
    }

    /** "each AFTER all that it comes AFTER (of days ahead, or ahead on that day)" */
    private static void afterOfDaysAhead() {
        SandPalace x = of(10);
        for (int s = 0; s < 9; s++) {
            x.hem(s + 1, s, true);
        }
        x.sand(40);
        // REACH of 0 .. 9 is 0 1 2 3 4 5 6 7 1 1: 8 must wait for a DAY behind 7
        plan("a chain", x, 255, 768);
        order("a chain", x, 0, 1, 2, 3, 4, 5, 6, 7, 8, 9);
        x.sand(4);
        plan("a DAY each", x, 1, 2, 4, 8, 16, 32, 64, 128, 256, 512);
        SandPalace y = of(3);
        y.sand(8);
        y.hem(2, 1, true);
        y.hem(1, 0, true);
        plan("two and one", y, 3, 4);
        y.hem(1, 0, false);
        plan("the greatest", y, 6, 1);
    }

    /**
     * Of the three one is told to be poured behind one that reaches further, and ahead of one that it can't share a DAY with:
     * three DAYS, though two would be enough if it could go first. Whichever of the three is told first.
     */
    private static void neverAheadOfWhatItComesAfter() {
        for (int turn = 0; turn < 3; turn++) {
            int inner = turn;
            int small = (turn + 1) % 3;
            int outer = (turn + 2) % 3;
            SandPalace x = new SandPalace();
            for (int s = 0; s < 3; s++) {
                int v = s == inner ? 0 : s == small ? 1 : 2;
                x.block(1, 0, v, s == small ? 0 : 1, v);
            }
            x.hem(inner, small, true);
            x.hem(outer, inner, true);
            x.sand(12);
            // of like REACH: both are of REACH 1, so that the small one and the inner one may share a DAY
            plan("of like REACH", x, 1 << inner | 1 << small, 1 << outer);
            SandPalace y = new SandPalace();
            for (int s = 0; s < 3; s++) {
                int v = s == inner ? 0 : s == small ? 2 : 3;
                y.block(1, 0, v, s == small ? 0 : 1, v);
            }
            y.hem(inner, small, true);
            y.hem(outer, inner, true);
            y.sand(12);
            plan("of more REACH", y, 1 << small, 1 << inner, 1 << outer);
        }
    }

    /** SIZES 16, 20, 12, 16: by 3 and 2 on the first DAY there would be three. */
    private static void fewestAheadOfGreatest() {
        SandPalace x = new SandPalace();
        x.block(1, 0, 0, 3, 0);
        x.block(1, 0, 1, 4, 1);
        x.block(1, 0, 2, 2, 2);
        x.block(1, 0, 3, 3, 3);
        x.sand(32);
        plan("fewest", x, 9, 6);
        x.sand(31);
        plan("three in any way", x, 12, 2, 1);
    }

    /** "of such the first by DAYS, day by day: as bits the greatest number" */
    private static void greatestNumberFirst() {
        SandPalace x = of(10);
        x.sand(20);
        plan("five a DAY", x, 992, 31);
        x.sand(24);
        plan("six, then four", x, 1008, 15);
        x.hem(9, 0, true);
        plan("9 waits for 0, 0 goes with it", x, 1009 - 16, 30);
        SandPalace y = of(3);
        y.sand(8);
        y.hem(0, 1, true);
        plan("0 AFTER 1, that reaches further: never on one DAY", y, 6, 1);
        y.hem(0, 2, true);
        plan("and AFTER 2", y, 6, 1);
        y.hem(2, 1, true);
        plan("2 AFTER 1", y, 6, 1);
    }

    /** "day by day: as bits the greatest number": of DAYS behind the first too. */
    private static void greatestOnLaterDays() {
        SandPalace x = of(7);
        x.sand(12);
        plan("by threes", x, 112, 14, 1);
        x.hem(6, 5, true);
        plan("5 reaches no further", x, 112, 14, 1);
        x.hem(5, 6, true);
        noPlan("round", x);
        x.hem(6, 5, false);
        plan("6 first, 5 on a DAY behind", x, 64 + 16 + 8, 32 + 4 + 2, 1);
    }

    /** "(There is none, if HEMS go round" */
    private static void hemsGoRound() {
        for (int shapes = 2; shapes <= 10; shapes++) {
            SandPalace x = of(shapes);
            for (int s = 0; s < shapes; s++) {
                x.hem(s, (s + 1) % shapes, true);
            }
            noPlan(shapes + " round", x);
            x.hem(shapes - 1, 0, false);
            DUE.is(17, "cut at the last", x.days() > 0 ? 1 : 0, 1);
            x.hem(shapes - 1, 0, true);
            noPlan("round again", x);
            x.hem(0, 1, false);
            DUE.is(17, "cut at the first", x.days() > 0 ? 1 : 0, 1);
        }
        SandPalace y = of(10);
        y.hem(8, 9, true);
        y.hem(9, 8, true);
        noPlan("the last two alone", y);
        y.undo();
        DUE.is(17, "the last one gone", y.days(), 1);
    }

    /** "(There is none, if HEMS go round": also one HEM against what comes AFTER by a cell. */
    private static void hemsGoRoundByCells() {
        SandPalace x = new SandPalace();
        x.rim(1, 3);
        x.line(1, 3, 0, 3, 0);
        DUE.is(17, "by a cell", x.days(), 1);
        x.hem(0, 1, true);
        noPlan("and back by a HEM", x);
        x.hem(1, 0, true);
        noPlan("both", x);
        x.hem(0, 1, false);
        DUE.is(17, "by a cell and a HEM", x.days(), 1);
    }

    /** "(There is none, if HEMS go round": two ways to one end are not round, nor are as many HEMS as can be. */
    private static void hemsThatDoNotGoRound() {
        SandPalace x = of(4);
        x.hem(3, 1, true);
        x.hem(3, 2, true);
        x.hem(1, 0, true);
        x.hem(2, 0, true);
        plan("two ways to one end", x, 15);
        SandPalace y = of(10);
        for (int s = 0; s < 10; s++) {
            for (int o = 0; o < s; o++) {
                y.hem(s, o, true);
            }
        }
        plan("each AFTER all told ahead", y, 255, 768);
    }

    /** "SHAPES of DAY i (0 ..) of PLAN as bits. BAD; NONE." */
    private static void dayEdges() {
        for (int sand = 4; sand <= 40; sand += 4) {
            int s = sand;
            int days = (40 + sand - 1) / sand;
            Edges.taken(DUE, 18, "day of " + days, 0, days - 1, n -> day(s, n));
        }
        Edges.refusedBelow(DUE, 18, "day of nothing", MOST, BAD, n -> new SandPalace().day(n));
    }

    private static int day(int sand, int i) {
        SandPalace x = of(10);
        x.sand(sand);
        return x.day(i);
    }

    /** BAD stands ahead of NONE, and below 0 no DAY of any PLAN is; any other number is NONE without one. */
    private static void dayBelowNoughtWithoutPlan() {
        for (int i : new int[] {LEAST, LEAST + 1, -2, -1}) {
            DUE.is(18, "day(" + i + ")", day(3, i), BAD);
        }
        for (int i : new int[] {0, 1, 9, 10, MOST}) {
            DUE.is(18, "day(" + i + ")", day(3, i), NONE);
        }
    }

    /** "The SHAPE poured at a place (0 ..) of PLAN .. BAD; NONE." */
    private static void pouredEdges() {
        for (int shapes = 1; shapes <= 10; shapes++) {
            int s = shapes;
            Edges.taken(DUE, 19, "poured of " + shapes, 0, shapes - 1, n -> of(s).poured(n));
        }
        Edges.refusedBelow(DUE, 19, "poured of nothing", MOST, BAD, n -> new SandPalace().poured(n));
    }

    /** BAD stands ahead of NONE, and no place below 0 is of any PLAN; any other is NONE without one. */
    private static void pouredBelowNoughtWithoutPlan() {
        SandPalace x = of(10);
        x.sand(3);
        for (int place : new int[] {LEAST, LEAST + 1, -2, -1}) {
            DUE.is(19, "poured(" + place + ")", x.poured(place), BAD);
        }
        for (int place : new int[] {0, 1, 9, 10, MOST}) {
            DUE.is(19, "poured(" + place + ")", x.poured(place), NONE);
        }
    }

    /** "DAY by DAY, within one by REACH" */
    private static void pouredByReach() {
        SandPalace x = of(10);
        order("one DAY", x, 0, 1, 8, 9, 2, 3, 4, 5, 6, 7);
        x.sand(20);
        order("two DAYS: 9 to 5, then 4 to 0", x, 8, 9, 5, 6, 7, 0, 1, 2, 3, 4);
        x.sand(36);
        order("0 alone on the last", x, 1, 8, 9, 2, 3, 4, 5, 6, 7, 0);
    }

    /** "of like ones .. the least" */
    private static void pouredOfLikeOnesTheLeast() {
        SandPalace x = new SandPalace();
        for (int v = 7; v >= 0; v--) {
            x.block(1, 7, v, 7, v);
        }
        order("as they are told", x, 0, 1, 2, 3, 4, 5, 6, 7);
        SandPalace y = new SandPalace();
        for (int v = 0; v < 8; v++) {
            y.block(1, 7, v, 7, v);
        }
        order("as they are told", y, 0, 1, 2, 3, 4, 5, 6, 7);
    }

    /** "of like ones one that comes AFTER no other left" */
    private static void pouredOfLikeOnesAfterNoOtherLeft() {
        SandPalace x = new SandPalace();
        for (int v = 0; v < 8; v++) {
            x.block(1, 7, v, 7, v);
        }
        for (int s = 0; s < 7; s++) {
            x.hem(s, s + 1, true);
        }
        plan("one DAY", x, 255);
        order("from the last on", x, 7, 6, 5, 4, 3, 2, 1, 0);
        x.hem(3, 4, false);
        order("3 is free", x, 3, 2, 1, 0, 7, 6, 5, 4);
        x.hem(0, 1, false);
        order("0 is free", x, 0, 3, 2, 1, 7, 6, 5, 4);
    }

    /** A PLAN is of SHAPES, HEMS and SAND as they are, also if one was asked for ahead of a change. */
    private static void planOfThePictureAsItIs() {
        SandPalace x = of(9);
        plan("nine", x, 511);
        x.block(1, 1, 1, 1, 1);
        plan("ten", x, 1023);
        x.undo();
        plan("nine again", x, 511);
        x.sand(4);
        DUE.is(17, "days()", x.days(), 9);
        x.sand(128);
        plan("nine on one DAY", x, 511);
        x.hem(0, 7, true);
        plan("a HEM", x, 510, 1);
        x.hem(0, 7, false);
        plan("no HEM", x, 511);
        x.disc(1, 450);
        noPlan("too great a one", x);
        x.undo();
        plan("without it", x, 511);
        x.rim(2, 0);
        plan("one that has a cell of 0", x, 1023);
        order("one that has a cell of 0", x, 0, 9, 1, 8, 2, 3, 4, 5, 6, 7);
        x.undo();
        x.line(2, 7, 0, 0, 0);
        plan("one that has cells of 0 to 7", x, 1023);
    }

    /** "An object is used for at most 512 calls": the last answers like the first. */
    private static void fiveHundredAndTwelveCalls() {
        SandPalace x = of(10);
        for (int i = 0; i < 125; i++) {
            x.sand(i % 2 == 0 ? 20 : 24);
            DUE.is(17, "days()", x.days(), 2);
            DUE.is(18, "day(0)", x.day(0), i % 2 == 0 ? 992 : 1008);
            DUE.is(19, "poured(9)", x.poured(9), i % 2 == 0 ? 4 : 3);
        }
        DUE.is(7, "the 511th call", x.undo(), 9);
        DUE.is(17, "the 512th call", x.days(), 2);
    }
}
