import java.util.Arrays;
import java.util.function.Supplier;

/**
 * All that the calls of an object can tell of it, as one row of answers. An object is used for 512 calls at most, and some
 * of these calls change it, so that each part is asked of an object made anew.
 */
final class Whole {
    private final Supplier<SandPalace> making;
    private SandPalace asked;
    private int[] answers = new int[4096];
    private int count;

    private Whole(Supplier<SandPalace> making) {
        this.making = making;
    }

    static int[] of(Supplier<SandPalace> making) {
        Whole whole = new Whole(making);
        whole.askShapes();
        whole.askHems();
        whole.askLooks();
        whole.askLayers();
        whole.askWork();
        whole.askPhoto();
        whole.askBack();
        whole.askMend();
        whole.askSweeper();
        for (int sheet = 0; sheet < 4; sheet++) {
            whole.askSheet(sheet);
        }
        return Arrays.copyOf(whole.answers, whole.count);
    }

    private void anew() {
        asked = making.get();
    }

    private void add(int answer) {
        if (count == answers.length) {
            answers = Arrays.copyOf(answers, 2 * count);
        }
        answers[count++] = answer;
    }

    private void askShapes() {
        anew();
        for (int s = 0; s < 10; s++) {
            for (int what = 0; what < 5; what++) {
                add(asked.told(s, what));
            }
            add(asked.step(s));
            add(asked.quarter(s));
            add(asked.count(s));
            for (int o = 0; o < 10; o++) {
                add(asked.after(s, o));
            }
        }
        add(asked.unlike());
        for (int i = 0; i < 11; i++) {
            add(asked.undo());
        }
    }

    private void askHems() {
        anew();
        for (int s = 0; s < 10; s++) {
            for (int o = 0; o < 10; o++) {
                add(asked.hem(s, o, false));
            }
        }
        add(asked.days());
    }

    private void askLooks() {
        anew();
        for (int cell = 0; cell < 256; cell++) {
            add(asked.cell(cell % 16, cell / 16, 0));
        }
    }

    private void askLayers() {
        anew();
        for (int cell = 0; cell < 256; cell++) {
            add(asked.cell(cell % 16, cell / 16, 2));
        }
    }

    private void askWork() {
        anew();
        add(asked.days());
        for (int i = 0; i < 11; i++) {
            add(asked.day(i));
            add(asked.poured(i));
        }
        add(asked.sand(200));
        add(asked.days());
    }

    private void askPhoto() {
        anew();
        for (int cell = 0; cell < 256; cell++) {
            add(asked.seen(cell % 16, cell / 16));
        }
        for (int what = 0; what < 4; what++) {
            add(asked.harm(what));
        }
        add(asked.again());
    }

    private void askBack() {
        anew();
        for (int cell = 0; cell < 256; cell++) {
            add(asked.back(cell % 16, cell / 16));
        }
    }

    private void askMend() {
        anew();
        add(asked.mend());
        add(asked.harm(0));
        add(asked.harm(1));
        add(asked.photo());
    }

    private void askSweeper() {
        anew();
        for (int gate = 0; gate < 4; gate++) {
            add(asked.way(gate));
            for (int place = 0; place < 17; place++) {
                add(asked.wayAt(gate, place));
            }
        }
        for (int f = 0; f < 16; f++) {
            add(asked.heap(f));
        }
        add(asked.bar(0));
    }

    private void askSheet(int sheet) {
        anew();
        int length = asked.drop(sheet);
        add(length);
        anew();
        for (int lane = 0; lane < 3; lane++) {
            add(asked.item(sheet, lane, -1, 0));
            add(asked.show(sheet, lane, 0, 0, Math.max(length, 0)));
        }
        for (int i = 0; i < length; i++) {
            add(asked.seen(i % 16, i / 16));
        }
    }
}
