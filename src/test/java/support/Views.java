import java.util.ArrayList;
import java.util.List;

/**
 * All that can be seen of a bench, in parts that each take less than 300 calls: what it answers now, and what it answers
 * when it is then built up to its limits, explored, run or cleared.
 */
final class Views {
    static final int COUNT = 8;

    private final SymbolBench bench;
    private final List<Integer> answers = new ArrayList<>();

    private Views(SymbolBench bench) {
        this.bench = bench;
    }

    /** The answers of one view; the bench may be changed by it. */
    static List<Integer> of(SymbolBench bench, int view) {
        Views views = new Views(bench);
        switch (view) {
            case 0: views.run(); break;
            case 1: views.findings(); break;
            case 2: views.paths(); break;
            case 3: views.words(); break;
            case 4: views.roomForInputs(); break;
            case 5: views.roomForInstructions(); break;
            case 6: views.nextRun(); break;
            default: views.cleared(); break;
        }
        return views.answers;
    }

    private void counts() {
        for (int what = -1; what <= 6; what++) {
            answers.add(bench.count(what));
        }
    }

    private void run() {
        counts();
        for (int what = -1; what <= 6; what++) {
            answers.add(bench.ran(what));
        }
        for (int k = -1; k <= 16; k++) {
            answers.add(bench.register(k));
            answers.add(bench.cell(k));
        }
    }

    private void findings() {
        for (int k = -1; k <= 8; k++) {
            for (int what = 0; what < 3; what++) {
                answers.add(bench.failure(k, what));
            }
        }
        for (int place = -1; place <= 60; place++) {
            answers.add(bench.covered(place));
        }
    }

    private void paths() {
        for (int i : new int[] {-1, 0, 1, 2, 3, 4, 38, 39, 40}) {
            for (int what = -1; what <= 6; what++) {
                answers.add(bench.path(i, what));
            }
            for (int j = -1; j <= 12; j++) {
                answers.add(bench.decision(i, j));
            }
        }
    }

    private void words() {
        int words = 1 << bench.count(1);
        for (int i = 0; i < 4; i++) {
            for (int word : new int[] {-1, 0, 1, words / 2, words - 1, words, 4095, 4096}) {
                answers.add(bench.holds(i, word));
                answers.add(bench.value(i, word));
            }
            for (int what = 0; what < 4; what++) {
                for (int v : new int[] {-1, 0, 1, 5}) {
                    answers.add(bench.find(i, what, v));
                }
            }
        }
    }

    /** Each answer of these tells how many inputs and bits the bench thinks that there are. */
    private void roomForInputs() {
        for (int k = 0; k < 5; k++) {
            answers.add(bench.tell(Op.INPUT, k, k, 0));
        }
        answers.add(bench.input(13 - bench.count(1), true));
        for (int k = 0; k < 13; k++) {
            answers.add(bench.input(1, true));
        }
        counts();
        answers.add(bench.run((1 << bench.count(1)) - 1));
        answers.add(bench.run(1 << bench.count(1)));
        run();
    }

    private void roomForInstructions() {
        for (int k = 0; k < 7; k++) {
            answers.add(bench.tell(Op.MUL, 0, 1, 2));
            answers.add(bench.tell(Op.UDIV + k % 4, 3, 4, 5));
        }
        for (int k = 0; k < 61; k++) {
            answers.add(bench.tell(Op.ADD, 6, 7, 8));
        }
        counts();
        answers.add(bench.clear());
        counts();
    }

    private void nextRun() {
        answers.add(bench.explore());
        run();
        answers.add(bench.run(1 << bench.count(1)));
        run();
        answers.add(bench.run((1 << bench.count(1)) - 1));
        run();
    }

    private void cleared() {
        answers.add(bench.clear());
        run();
        findings();
        answers.add(bench.clear());
        answers.add(bench.explore());
        answers.add(bench.run(0));
        run();
    }
}
