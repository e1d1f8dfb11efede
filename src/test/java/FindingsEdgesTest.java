/** The boundaries of what is said of all paths, sentence by sentence: promises 15 to 17. */
public final class FindingsEdgesTest {
    private static final Check CHECK = new Check();
    private static final int LEAST = Edge.LEAST;
    private static final int MOST = Edge.MOST;

    public static void main(String[] args) {
        failureNumbers();
        failureAnotherWhat();
        failureOfEachKind();
        failureOnce();
        failureByPlace();
        failureAtTheFirstAndLastPlace();
        failureLeastWord();
        failureThatNoneComesTo();
        failureIsNoHalt();
        coveredPlaces();
        coveredByOneWord();
        coveredNot();
        coveredUnknown();
        countOfInputsAndBits();
        countOfInstructions();
        countOfPaths();
        countOfFailures();
        countOfCovered();
        countUnknown();
        countAnotherWhat();
        CHECK.finish();
    }

    /** So many ASSERTs at places 2, 4, .., each failing for its own word 0, 1, .. */
    private static SymbolBench asserting(int failing) {
        SymbolBench bench = Op.bench(5, Op.i(Op.INPUT, 0, 0), Op.i(Op.CONST, 1, 1));
        for (int k = 0; k < failing; k++) {
            Op.tell(bench, Op.i(Op.ASSERT, 0), Op.i(Op.SUB, 0, 0, 1));
        }
        return bench;
    }

    private static void failed(SymbolBench bench, int k, int... want) {
        for (int what = 0; what < 3; what++) {
            CHECK.due("failure(" + k + ", " + what + ")", bench.failure(k, what), want[what]);
        }
    }

    // Promise 15

    private static void failureNumbers() {
        CHECK.sentence("Promise 15: NONE if there is none such");
        for (int failing : new int[] {0, 1, 2, 28, 29}) {
            SymbolBench bench = asserting(failing);
            CHECK.due("explore()", bench.explore(), failing + 1);
            CHECK.due("count(4)", bench.count(4), failing);
            for (int k = 0; k < failing; k++) {
                failed(bench, k, 3, 2 + 2 * k, k);
            }
            for (int k : new int[] {LEAST, -2, -1, failing, failing + 1, 40, 60, 64, MOST}) {
                failed(bench, k, -1, -1, -1);
            }
        }
    }

    private static void failureAnotherWhat() {
        CHECK.sentence("Promise 15: or for another what");
        SymbolBench bench = asserting(3);
        bench.explore();
        for (int k = -1; k <= 3; k++) {
            for (int what : new int[] {LEAST, -2, -1, 3, 4, 5, 256, MOST}) {
                CHECK.due("failure(" + k + ", " + what + ")", bench.failure(k, what), -1);
            }
        }
    }

    private static void failureOfEachKind() {
        CHECK.sentence("Promise 15: what 0: the end, 1: the place");
        int[][] enders = {{Op.UDIV, 2, 2, 0}, {Op.UREM, 2, 2, 0}, {Op.SDIV, 2, 2, 0}, {Op.SREM, 2, 2, 0}, {Op.LOAD, 2, 1, 0},
            {Op.STORE, 1, 2, 0}, {Op.ASSERT, 0, 0, 0}, {Op.FAIL, 0, 0, 0}};
        int[] ends = {1, 1, 1, 1, 2, 2, 3, 4};
        for (int place = 1; place <= 59; place += 29) {
            for (int k = 0; k < enders.length; k++) {
                SymbolBench bench = Op.bench(2, Op.i(Op.CONST, 1, 8));
                Edge.fill(bench, place);
                bench.tell(enders[k][0], enders[k][1], enders[k][2], enders[k][3]);
                CHECK.due("explore()", bench.explore(), 1);
                CHECK.due("count(4)", bench.count(4), 1);
                failed(bench, 0, ends[k], place, 0);
                failed(bench, 1, -1, -1, -1);
            }
        }
    }

    /** Two IFs that part the words in four, all of which fail at one place, or half of them at another. */
    private static void failureOnce() {
        CHECK.sentence("Promise 15: Of the k-th FAILURE that PATHS end by, each end and place once");
        for (int target = 5; target <= 6; target++) {
            SymbolBench bench = new SymbolBench();
            bench.input(1, false);
            bench.input(1, false);
            Op.tell(bench, Op.i(Op.INPUT, 0, 0), Op.i(Op.INPUT, 1, 1), Op.i(Op.IF, 0, 3), Op.i(Op.IF, 1, target),
                Op.i(Op.COPY, 2, 2), Op.i(Op.FAIL, 7), Op.i(Op.FAIL, 7));
            CHECK.due("explore()", bench.explore(), 4);
            CHECK.due("count(4)", bench.count(4), target - 4);
            failed(bench, 0, 4, 5, 0);
            failed(bench, 1, target == 6 ? new int[] {4, 6, 1} : new int[] {-1, -1, -1});
            failed(bench, 2, -1, -1, -1);
        }
    }

    /** Which fails first in the order of paths, or by the lesser word, is of no matter. */
    private static void failureByPlace() {
        CHECK.sentence("Promise 15: by place, then end");
        for (int flip = 0; flip < 2; flip++) {
            SymbolBench bench = Op.bench(1, Op.i(Op.INPUT, 0, 0), flip == 1 ? Op.i(Op.EQ, 0, 0, 1) : Op.i(Op.COPY, 1, 1),
                Op.i(Op.IF, 0, 4), Op.i(Op.FAIL, 200), Op.i(Op.UDIV, 3, 3, 3));
            CHECK.due("explore()", bench.explore(), 2);
            CHECK.due("the path ahead", bench.path(0, 1), 4);
            failed(bench, 0, 4, 3, flip);
            failed(bench, 1, 1, 4, 1 - flip);
            failed(bench, 2, -1, -1, -1);
        }
    }

    private static void failureAtTheFirstAndLastPlace() {
        CHECK.sentence("Promise 15: 1: the place (the first and the last that there can be)");
        SymbolBench first = Op.bench(3, Op.i(Op.FAIL, 255), Op.i(Op.FAIL, 1));
        first.explore();
        failed(first, 0, 4, 0, 0);
        failed(first, 1, -1, -1, -1);
        SymbolBench last = Op.bench(3, Op.i(Op.INPUT, 0, 0), Op.i(Op.ASSERT, 0));
        Edge.fill(last, 59);
        last.tell(Op.FAIL, 0, 0, 0);
        last.explore();
        failed(last, 0, 3, 1, 0);
        failed(last, 1, 4, 59, 1);
        failed(last, 2, -1, -1, -1);
    }

    /** Words of two paths come to one FAIL: the least of all is told, whichever path it goes. */
    private static void failureLeastWord() {
        CHECK.sentence("Promise 15: 2: the least INPUT WORD that comes to it");
        for (int least : new int[] {0, 1, 2047, 2048, 4094, 4095}) {
            for (int flip = 0; flip < 2; flip++) {
                SymbolBench bench = Op.bench(12, Op.i(Op.INPUT, 0, 0), Op.i(Op.CONST, 1, least), Op.i(Op.ULT, 2, 0, 1),
                    Op.i(Op.IF, 2, 60), Op.i(Op.EQ, 3, 0, 1), flip == 1 ? Op.i(Op.EQ, 3, 3, 5) : Op.i(Op.COPY, 5, 5),
                    Op.i(Op.IF, 3, 7), Op.i(Op.FAIL, 1));
                int halting = least > 0 ? 1 : 0;
                CHECK.due("explore()", bench.explore(), halting + (least == 4095 ? 1 : 2));
                CHECK.due("count(4)", bench.count(4), 1);
                failed(bench, 0, 4, 7, least);
            }
        }
    }

    private static void failureThatNoneComesTo() {
        CHECK.sentence("Promise 15: that PATHS end by (not one that no input comes to)");
        SymbolBench bench = Op.bench(3, Op.i(Op.INPUT, 0, 0), Op.i(Op.LOAD, 1, 0), Op.i(Op.JUMP, 4), Op.i(Op.FAIL, 1),
            Op.i(Op.HALT, 0), Op.i(Op.FAIL, 2));
        CHECK.due("explore()", bench.explore(), 1);
        CHECK.due("count(4)", bench.count(4), 0);
        failed(bench, 0, -1, -1, -1);
        SymbolBench wider = Op.bench(4, Op.i(Op.INPUT, 0, 0), Op.i(Op.LOAD, 1, 0), Op.i(Op.JUMP, 4), Op.i(Op.FAIL, 1),
            Op.i(Op.HALT, 0), Op.i(Op.FAIL, 2));
        CHECK.due("explore() with a bit more", wider.explore(), 2);
        failed(wider, 0, 2, 1, 8);
        failed(wider, 1, -1, -1, -1);
    }

    private static void failureIsNoHalt() {
        CHECK.sentence("Terms: ENDS: 0 HALT. FAILURES: 1 DIVISION, 2 PLACE, 3 ASSERT, 4 FAIL");
        SymbolBench bench = Op.bench(1, Op.i(Op.INPUT, 0, 0), Op.i(Op.IF, 0, 3), Op.i(Op.HALT, 0));
        CHECK.due("explore()", bench.explore(), 2);
        CHECK.due("HALT and behind the last", bench.path(0, 1) * 10 + bench.path(1, 1), 32);
        CHECK.due("count(4)", bench.count(4), 0);
        failed(bench, 0, -1, -1, -1);
    }

    // Promise 16

    private static void coveredPlaces() {
        CHECK.sentence("Promise 16: NONE if there is no such instruction");
        for (int size : new int[] {0, 1, 2, 59, 60}) {
            SymbolBench bench = Edge.idle(size);
            bench.explore();
            for (int place = 0; place < size; place++) {
                CHECK.due("covered(" + place + ") of " + size, bench.covered(place), 1);
            }
            for (int place : new int[] {LEAST, -2, -1, size, size + 1, 60, 61, 63, 64, 128, MOST}) {
                CHECK.due("covered(" + place + ") of " + size, bench.covered(place), -1);
            }
        }
    }

    private static void coveredByOneWord() {
        CHECK.sentence("Promise 16: Whether a PATH comes to the instruction at a place: 1, 0");
        for (int word : new int[] {-1, 0, 1, 4094, 4095, 4096}) {
            SymbolBench bench = Op.bench(12, Op.i(Op.INPUT, 0, 0), Op.i(Op.CONST, 1, word), Op.i(Op.SUB, 2, 0, 1),
                Op.i(Op.IF, 2, 6), Op.i(Op.FAIL, 1), Op.i(Op.COPY, 2, 2), Op.i(Op.HALT, 0));
            bench.explore();
            boolean isWord = Edge.isWord(word, 12);
            int[] want = {1, 1, 1, 1, isWord ? 1 : 0, 0, 1};
            for (int place = 0; place < 7; place++) {
                CHECK.due("covered(" + place + ") by " + word, bench.covered(place), want[place]);
            }
            CHECK.due("count(5)", bench.count(5), isWord ? 6 : 5);
        }
    }

    /** What a JUMP goes over, what stands behind an end, but not the instruction that ends. */
    private static void coveredNot() {
        CHECK.sentence("Promise 16: comes to the instruction (that ends there too, and none behind it)");
        int[][] enders = {{Op.HALT, 0, 0, 0}, {Op.UDIV, 2, 2, 0}, {Op.LOAD, 2, 1, 0}, {Op.STORE, 1, 2, 0}, {Op.ASSERT, 0, 0, 0},
            {Op.FAIL, 0, 0, 0}, {Op.JUMP, 60, 0, 0}};
        for (int place = 1; place <= 59; place += 29) {
            for (int[] ender : enders) {
                SymbolBench bench = Op.bench(2, Op.i(Op.CONST, 1, 8));
                Edge.fill(bench, place);
                bench.tell(ender[0], ender[1], ender[2], ender[3]);
                Edge.fill(bench, 60);
                bench.explore();
                for (int k = 0; k < 60; k++) {
                    CHECK.due("covered(" + k + "), ended at " + place, bench.covered(k), k <= place ? 1 : 0);
                }
                CHECK.due("count(5)", bench.count(5), place + 1);
            }
        }
    }

    private static void coveredUnknown() {
        CHECK.sentence("Promise 16: or no PATHS are known");
        SymbolBench bench = asserting(2);
        for (int place = -1; place <= 6; place++) {
            CHECK.due("covered(" + place + ") ahead of explore()", bench.covered(place), -1);
        }
        bench.run(0);
        CHECK.due("covered(0) behind a run", bench.covered(0), -1);
        bench.explore();
        CHECK.due("covered(5)", bench.covered(5), 1);
        bench.tell(Op.HALT, 0, 0, 0);
        CHECK.due("covered(5), one came", bench.covered(5), -1);
        CHECK.due("covered(6), one came", bench.covered(6), -1);
        bench.explore();
        CHECK.due("covered(6), explored again", bench.covered(6), 1);
        bench.input(1, false);
        CHECK.due("covered(0), an input came", bench.covered(0), -1);
        bench.explore();
        bench.clear();
        CHECK.due("covered(0), cleared", bench.covered(0), -1);
        bench.explore();
        CHECK.due("covered(0), no instruction", bench.covered(0), -1);
    }

    // Promise 17

    private static void countOfInputsAndBits() {
        CHECK.sentence("Promise 17: What 0: inputs, 1: bits of all");
        SymbolBench bench = new SymbolBench();
        int[] bits = {5, 1, 2, 4};
        int sum = 0;
        for (int k = 0; k <= 4; k++) {
            CHECK.due("inputs", bench.count(0), k);
            CHECK.due("bits", bench.count(1), sum);
            if (k < 4) {
                bench.input(bits[k], k % 2 == 0);
                sum += bits[k];
            }
        }
        bench.input(1, false);
        CHECK.due("inputs behind a refused one", bench.count(0), 4);
        CHECK.due("bits behind a refused one", bench.count(1), 12);
        bench.clear();
        CHECK.due("inputs behind clear()", bench.count(0), 0);
        CHECK.due("bits behind clear()", bench.count(1), 0);
    }

    private static void countOfInstructions() {
        CHECK.sentence("Promise 17: 2: instructions");
        SymbolBench bench = new SymbolBench();
        for (int size = 0; size <= 60; size++) {
            CHECK.due("instructions", bench.count(2), size);
            bench.tell(Op.HALT, 0, 0, 0);
        }
        CHECK.due("instructions behind a refused one", bench.count(2), 60);
        bench.clear();
        CHECK.due("instructions behind clear()", bench.count(2), 0);
    }

    private static void countOfPaths() {
        CHECK.sentence("Promise 17: 3: PATHS");
        for (int failing = 0; failing <= 29; failing++) {
            SymbolBench bench = asserting(failing);
            bench.explore();
            CHECK.due("paths", bench.count(3), failing + 1);
        }
        for (int twice = 18; twice <= 21; twice++) {
            SymbolBench bench = new SymbolBench();
            bench.input(1, false);
            bench.input(5, false);
            Op.tell(bench, Op.i(Op.INPUT, 1, 0), Op.i(Op.INPUT, 0, 1), Op.i(Op.CONST, 2, 1), Op.i(Op.IF, 1, 4));
            for (int k = 1; k < twice; k++) {
                Op.tell(bench, Op.i(Op.ASSERT, 0), Op.i(Op.SUB, 0, 0, 2));
            }
            bench.explore();
            CHECK.due("paths, twice " + twice, bench.count(3), twice <= 20 ? 2 * twice : -1);
        }
    }

    private static void countOfFailures() {
        CHECK.sentence("Promise 17: 4: FAILURES (likewise)");
        for (int failing = 0; failing <= 29; failing++) {
            SymbolBench bench = asserting(failing);
            CHECK.due("failures ahead of explore()", bench.count(4), -1);
            bench.explore();
            CHECK.due("failures", bench.count(4), failing);
        }
        SymbolBench all = Op.bench(3, Op.i(Op.FAIL, 1));
        all.explore();
        CHECK.due("all fail", all.count(4), 1);
    }

    private static void countOfCovered() {
        CHECK.sentence("Promise 17: 5: instructions that are covered (likewise)");
        for (int size = 0; size <= 60; size++) {
            SymbolBench bench = Edge.idle(size);
            CHECK.due("covered ahead of explore()", bench.count(5), -1);
            bench.explore();
            CHECK.due("all are covered", bench.count(5), size);
        }
        for (int skipped = 0; skipped <= 59; skipped++) {
            SymbolBench bench = Op.bench(0, Op.i(Op.JUMP, skipped + 1));
            Edge.fill(bench, 60);
            bench.explore();
            CHECK.due("all but " + skipped, bench.count(5), 60 - skipped);
        }
    }

    private static void countUnknown() {
        CHECK.sentence("Promise 17: (NONE if none are known)");
        SymbolBench bench = new SymbolBench();
        for (int what = 3; what <= 5; what++) {
            CHECK.due("new: count(" + what + ")", bench.count(what), -1);
        }
        bench.explore();
        int[] want = {0, 0, 0, 1, 0, 0};
        for (int what = 0; what <= 5; what++) {
            CHECK.due("nothing, explored: count(" + what + ")", bench.count(what), want[what]);
        }
        bench.input(2, false);
        for (int what = 3; what <= 5; what++) {
            CHECK.due("an input came: count(" + what + ")", bench.count(what), -1);
        }
        bench.explore();
        bench.tell(Op.FAIL, 0, 0, 0);
        for (int what = 3; what <= 5; what++) {
            CHECK.due("an instruction came: count(" + what + ")", bench.count(what), -1);
        }
        bench.explore();
        bench.clear();
        for (int what = 3; what <= 5; what++) {
            CHECK.due("cleared: count(" + what + ")", bench.count(what), -1);
        }
    }

    private static void countAnotherWhat() {
        CHECK.sentence("Promise 17: NONE for others");
        SymbolBench bench = asserting(2);
        for (int round = 0; round < 2; round++) {
            for (int what : new int[] {LEAST, -2, -1, 6, 7, 8, 256, MOST}) {
                CHECK.due("count(" + what + ")", bench.count(what), -1);
            }
            bench.explore();
        }
    }
}
