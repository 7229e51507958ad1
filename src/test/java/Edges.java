import java.util.TreeSet;
import java.util.function.IntUnaryOperator;

/** Numbers at and about every edge of the document, for the tests of boundary cases to try one argument with. */
final class Edges {
    static final int BAD = -1, NOT = -2, FULL = -3, NONE = -4, LOST = -5, QUARREL = -6;
    static final int NULL = -11, CAST = -12, INDEX = -13, SIZE = -14;
    static final int SMEARED = -5;
    static final int LEAST = Integer.MIN_VALUE, MOST = Integer.MAX_VALUE;

    private static final int[] NUMBERS = numbers();

    private Edges() {
    }

    /** All small numbers, both ends, and those that would be small if they were cut to a byte, a short or 31 bits. */
    private static int[] numbers() {
        TreeSet<Integer> all = new TreeSet<>();
        for (int n = -20; n <= 700; n++) {
            all.add(n);
        }
        for (int far : new int[] {LEAST, -65536, -256, 65536, 1 << 24, 1 << 30}) {
            for (int n = -1; n <= 9; n++) {
                all.add(far + n);
            }
        }
        all.add(MOST - 1);
        all.add(MOST);
        int[] numbers = new int[all.size()];
        int count = 0;
        for (int n : all) {
            numbers[count++] = n;
        }
        return numbers;
    }

    /** Of all numbers those from least to most are taken, and the others refused. The call makes an object of its own. */
    static void taken(Due due, int promise, String call, int least, int most, IntUnaryOperator answer) {
        refusedBelow(due, promise, call, least, BAD, answer);
        for (int n : NUMBERS) {
            if (n >= least) {
                due.is(promise, call + " with " + n + ": BAD?", answer.applyAsInt(n) == BAD ? 1 : 0, n > most ? 1 : 0);
            }
        }
    }

    static void refusedBelow(Due due, int promise, String call, int least, int refusal, IntUnaryOperator answer) {
        for (int n : NUMBERS) {
            if (n < least) {
                due.is(promise, call + " with " + n, answer.applyAsInt(n), refusal);
            }
        }
    }

    static void refusedAbove(Due due, int promise, String call, int most, int refusal, IntUnaryOperator answer) {
        for (int n : NUMBERS) {
            if (n > most) {
                due.is(promise, call + " with " + n, answer.applyAsInt(n), refusal);
            }
        }
    }

    /** Puts one item into the PHOTO at a cell, by a sheet of ints. */
    static void colourCell(SandPalace x, int cellX, int cellY, int colour) {
        x.sheet(3, 2, 1);
        x.item(3, 2, 0, colour);
        x.show(3, 2, 0, 16 * cellY + cellX, 1);
    }

    /** Ten SHAPES of 4 cells each, none of which has a cell of another: places 0, 0 to 7, 0 and 0, 1 and 1, 1. */
    static SandPalace ofTen() {
        SandPalace x = new SandPalace();
        for (int s = 0; s < 10; s++) {
            x.block(1 + s % 9, s % 8, s / 8, s % 8, s / 8);
        }
        return x;
    }
}
