/** The boundary cases of promises 28 to 31 and of what "Terms" says of FIELDS and WAY, a sentence each. */
public final class SweepEdgesTest {
    private static final int BAD = Edges.BAD, NONE = Edges.NONE, LEAST = Edges.LEAST, MOST = Edges.MOST;
    private static final int ALL = 65535;
    private static final int[] GATES = {1, 7, 14, 8};
    private static final Due DUE = new Due();

    private SweepEdgesTest() {
    }

    public static void main(String[] args) {
        noneAtFirst();
        barIsSixteenBits();
        barWhatWas();
        barRefusedStays();
        gatesAreNoughtToThree();
        gatesAreFields();
        wayOfAGateThatIsBarred();
        wayOfTheGateAlone();
        wayOfAllBarred();
        wayToAFieldThatIsCutOff();
        sideBySide();
        wayAtEdges();
        wayAtBelowNoughtWithoutWay();
        wayByTheBarsAsTheyAre();
        everyBar();
        fieldsAreNoughtToFifteen();
        fieldsAreFourByFour();
        heapNoneToMost();
        heapOfAll();
        DUE.end();
    }

    private static SandPalace barred(int fields) {
        SandPalace x = new SandPalace();
        x.bar(fields);
        return x;
    }

    private static SandPalace open(int... fields) {
        int bits = 0;
        for (int field : fields) {
            bits |= 1 << field;
        }
        return barred(ALL & ~bits);
    }

    private static void way(String what, SandPalace x, int gate, int... fields) {
        DUE.is(29, what + ": way", x.way(gate), fields.length);
        for (int i = 0; i < fields.length; i++) {
            DUE.is(30, what + ": wayAt " + i, x.wayAt(gate, i), fields[i]);
        }
        DUE.is(30, what + ": behind the last", x.wayAt(gate, fields.length), BAD);
    }

    private static void noWay(String what, SandPalace x, int gate) {
        DUE.is(29, what + ": way", x.way(gate), NONE);
        DUE.is(30, what + ": wayAt", x.wayAt(gate, 0), NONE);
    }

    /** "Some are BARRED (bits; none at first)." */
    private static void noneAtFirst() {
        DUE.is(28, "what was", new SandPalace().bar(ALL), 0);
        for (int gate = 0; gate < 4; gate++) {
            DUE.is(29, "all fields", new SandPalace().way(gate), 16);
        }
    }

    /** "BARRED are some fields .. BAD." */
    private static void barIsSixteenBits() {
        Edges.refusedBelow(DUE, 28, "bar", 0, BAD, n -> new SandPalace().bar(n));
        Edges.refusedAbove(DUE, 28, "bar", ALL, BAD, n -> new SandPalace().bar(n));
        for (int n : new int[] {0, 1, ALL - 1, ALL}) {
            DUE.is(28, "bar(" + n + ")", new SandPalace().bar(n), 0);
        }
    }

    /** "what was" */
    private static void barWhatWas() {
        SandPalace x = new SandPalace();
        for (int f = 0; f < 16; f++) {
            DUE.is(28, "one field", x.bar(1 << f), 0);
            DUE.is(28, "all but one", x.bar(ALL - (1 << f)), 1 << f);
            DUE.is(28, "all", x.bar(ALL), ALL - (1 << f));
            DUE.is(28, "none", x.bar(0), ALL);
            DUE.is(28, "none", x.bar(0), 0);
        }
    }

    /** "What is refused changes nothing.": the bars, and a WAY by them. */
    private static void barRefusedStays() {
        SandPalace x = open(1, 0);
        way("ahead", x, 0, 1, 0);
        for (int wrong : new int[] {LEAST, -1, ALL + 1, MOST}) {
            DUE.is(28, "bar", x.bar(wrong), BAD);
            way("behind", x, 0, 1, 0);
        }
        DUE.is(28, "what was", x.bar(0), ALL - 3);
    }

    /** "A WAY from a GATE (0 .. 3" */
    private static void gatesAreNoughtToThree() {
        Edges.taken(DUE, 29, "way", 0, 3, n -> new SandPalace().way(n));
        Edges.taken(DUE, 30, "wayAt", 0, 3, n -> new SandPalace().wayAt(n, 0));
        Edges.taken(DUE, 29, "way, all BARRED", 0, 3, n -> barred(ALL).way(n));
        Edges.taken(DUE, 30, "wayAt, all BARRED", 0, 3, n -> barred(ALL).wayAt(n, 0));
    }

    /** "GATES are fields 1, 7, 14, 8." */
    private static void gatesAreFields() {
        SandPalace x = new SandPalace();
        for (int gate = 0; gate < 4; gate++) {
            DUE.is(30, "the first field", x.wayAt(gate, 0), GATES[gate]);
        }
    }

    /** "each that is not BARRED once": a WAY begins at its GATE, so that none begins at one that is BARRED. */
    private static void wayOfAGateThatIsBarred() {
        for (int gate = 0; gate < 4; gate++) {
            noWay("its GATE alone BARRED", barred(1 << GATES[gate]), gate);
        }
    }

    /** "from a GATE from field to field": the shortest WAY is the GATE. */
    private static void wayOfTheGateAlone() {
        for (int gate = 0; gate < 4; gate++) {
            SandPalace x = open(GATES[gate]);
            way("its GATE alone", x, gate, GATES[gate]);
            for (int other = 0; other < 4; other++) {
                if (other != gate) {
                    noWay("another GATE", x, other);
                }
            }
        }
    }

    /** "each that is not BARRED once": with none left there is no GATE to go from. */
    private static void wayOfAllBarred() {
        for (int gate = 0; gate < 4; gate++) {
            noWay("all BARRED", barred(ALL), gate);
        }
    }

    /** "all of them" */
    private static void wayToAFieldThatIsCutOff() {
        noWay("a corner far off", open(1, 15), 0);
        noWay("a corner cut off", barred(1 << 11 | 1 << 14), 0);
        noWay("two ends", open(0, 1, 2), 0);
        way("one end", open(1, 2, 3), 0, 1, 2, 3);
        way("round a corner", open(1, 0, 4), 0, 1, 0, 4);
    }

    /** "from field to field (side by side)": not over the end of a row, not slanting, not over a field. */
    private static void sideBySide() {
        noWay("7 and 8", open(7, 8), 1);
        noWay("8 and 7", open(7, 8), 3);
        noWay("3 and 4", open(7, 3, 4), 1);
        noWay("11 and 12", open(7, 11, 12), 1);
        noWay("12 and 11", open(8, 12, 11), 3);
        noWay("slanting", open(1, 4), 0);
        noWay("slanting", open(1, 6), 0);
        noWay("slanting", open(14, 9), 2);
        noWay("slanting", open(14, 11), 2);
        noWay("over one", open(1, 3), 0);
        noWay("over one", open(1, 9), 0);
        noWay("over the top", open(1, 13), 0);
        noWay("from the foot", open(14, 2), 2);
        noWay("over the side", open(8, 11), 3);
        noWay("over the side", open(7, 4), 1);
        way("left", open(1, 0), 0, 1, 0);
        way("right", open(1, 2), 0, 1, 2);
        way("on", open(1, 5), 0, 1, 5);
        way("back", open(14, 10), 2, 14, 10);
    }

    /** "The field at a place of it. BAD; NONE." */
    private static void wayAtEdges() {
        for (int gate = 0; gate < 4; gate++) {
            int g = gate;
            Edges.taken(DUE, 30, "place of sixteen", 0, 15, n -> new SandPalace().wayAt(g, n));
            Edges.taken(DUE, 30, "place of one", 0, 0, n -> open(GATES[g]).wayAt(g, n));
        }
        Edges.taken(DUE, 30, "place of three", 0, 2, n -> open(1, 2, 3).wayAt(0, n));
    }

    /** BAD stands ahead of NONE, and no place below 0 is of any WAY; any other is NONE without one. */
    private static void wayAtBelowNoughtWithoutWay() {
        for (int gate = 0; gate < 4; gate++) {
            SandPalace x = barred(ALL);
            for (int place : new int[] {LEAST, LEAST + 1, -2, -1}) {
                DUE.is(30, "wayAt(" + gate + ", " + place + ")", x.wayAt(gate, place), BAD);
            }
            for (int place : new int[] {0, 1, 15, 16, MOST}) {
                DUE.is(30, "wayAt(" + gate + ", " + place + ")", x.wayAt(gate, place), NONE);
            }
        }
        DUE.is(30, "a GATE that names nothing", barred(ALL).wayAt(4, 0), BAD);
        DUE.is(30, "a GATE that names nothing", barred(ALL).wayAt(-1, 0), BAD);
    }

    /** "each that is not BARRED": as the bars are, also if a WAY was asked for ahead of a change. */
    private static void wayByTheBarsAsTheyAre() {
        SandPalace x = new SandPalace();
        for (int gate = 0; gate < 4; gate++) {
            DUE.is(29, "open", x.way(gate), 16);
        }
        x.bar(ALL);
        for (int gate = 0; gate < 4; gate++) {
            noWay("BARRED", x, gate);
        }
        x.bar(ALL - (1 << 7) - (1 << 3));
        way("two left", x, 1, 7, 3);
        noWay("two left", x, 0);
        x.bar(0);
        for (int gate = 0; gate < 4; gate++) {
            DUE.is(29, "open again", x.way(gate), 16);
        }
    }

    /** Of each set of fields as bits: those from which a WAY through the whole set goes. Found from small sets up. */
    private static int[] startsOfSets() {
        int[] starts = new int[ALL + 1];
        for (int set = 1; set <= ALL; set++) {
            for (int f = 0; f < 16; f++) {
                if ((set >> f & 1) != 0) {
                    int rest = set & ~(1 << f);
                    starts[set] |= rest == 0 || (starts[rest] & besides(f)) != 0 ? 1 << f : 0;
                }
            }
        }
        return starts;
    }

    private static int besides(int field) {
        int bits = 0;
        for (int f = 0; f < 16; f++) {
            bits |= Math.abs(f % 4 - field % 4) + Math.abs(f / 4 - field / 4) == 1 ? 1 << f : 0;
        }
        return bits;
    }

    /** "each that is not BARRED once, all of them: the first by fields, from the GATE on": all 65536 bars. */
    private static void everyBar() {
        int[] starts = startsOfSets();
        for (int bars = 0; bars <= ALL; bars++) {
            SandPalace x = barred(bars);
            for (int gate = 0; gate < 4; gate++) {
                int left = ALL & ~bars;
                int field = GATES[gate];
                boolean is = (starts[left] >> field & 1) != 0;
                int length = Integer.bitCount(left);
                DUE.is(29, "bars " + bars + " way", x.way(gate), is ? length : NONE);
                for (int place = 0; is && place < length; place++) {
                    DUE.is(30, "bars " + bars + " place " + place, x.wayAt(gate, place), field);
                    left &= ~(1 << field);
                    field = Integer.numberOfTrailingZeros(starts[left] & besides(field));
                }
            }
        }
    }

    /** "FIELDS 0 .. 15 of the hall" */
    private static void fieldsAreNoughtToFifteen() {
        Edges.taken(DUE, 31, "heap", 0, 15, n -> Edges.ofTen().heap(n));
        Edges.taken(DUE, 31, "heap of a bare hall", 0, 15, n -> new SandPalace().heap(n));
    }

    /** "four by four cells: field f has x by 4 of f modulo 4, y by 4 of f by 4" */
    private static void fieldsAreFourByFour() {
        for (int place = 0; place < 64; place++) {
            int u = place % 8;
            int v = place / 8;
            SandPalace x = new SandPalace();
            x.block(1, u, v, u, v);
            int[] due = new int[16];
            int[][] cells = {{8 + u, 8 + v}, {7 - v, 8 + u}, {7 - u, 7 - v}, {8 + v, 7 - u}};
            for (int[] cell : cells) {
                due[cell[1] / 4 * 4 + cell[0] / 4]++;
            }
            for (int f = 0; f < 16; f++) {
                DUE.is(31, "place " + place + " in field " + f, x.heap(f), due[f]);
            }
        }
    }

    /** "How much sand (LAYERS of all cells) lies in a field." */
    private static void heapNoneToMost() {
        SandPalace x = new SandPalace();
        for (int layers = 0; layers <= 10; layers++) {
            for (int f = 0; f < 16; f++) {
                DUE.is(31, layers + " LAYERS of all", x.heap(f), 16 * layers);
            }
            x.disc(9, 450);
        }
        for (int i = 0; i < 10; i++) {
            x.undo();
        }
        DUE.is(31, "none again", x.heap(15), 0);
        x.disc(1, 1);
        DUE.is(31, "a SHAPE without cells", x.heap(5), 0);
    }

    /** "LAYERS of all cells": all fields together have as much as all SHAPES. */
    private static void heapOfAll() {
        SandPalace x = new SandPalace();
        x.rim(1, 7);
        x.line(2, 0, 3, 7, 4);
        x.disc(3, 200);
        x.sign(4, 1, 1, 7, 2, 5);
        int heaps = 0;
        int sizes = 0;
        for (int f = 0; f < 16; f++) {
            heaps += x.heap(f);
        }
        for (int s = 0; s < 4; s++) {
            sizes += x.told(s, 2);
        }
        DUE.is(31, "all fields together", heaps, sizes);
    }
}
