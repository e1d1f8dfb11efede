/** The boundaries of plain runs, sentence by sentence: promises 11 to 14. */
public final class RunsEdgesTest {
    private static final Check CHECK = new Check();
    private static final int LEAST = Edge.LEAST;
    private static final int MOST = Edge.MOST;

    public static void main(String[] args) {
        wordsOfEachWidth();
        refusedRunsDoNothing();
        aheadOfAnyRun();
        behindClear();
        anotherWhat();
        placesWhereItEnds();
        instructionsDone();
        decisionsMade();
        numberOfItsPath();
        noneAreKnownNow();
        cameSince();
        refusedOnesCameNot();
        theLatestRun();
        theRunStays();
        registersOfTheRun();
        cellsOfTheRun();
        CHECK.finish();
    }

    private static void wordsOfEachWidth() {
        CHECK.sentence("Promise 11: its end; NONE if it is none");
        for (int bits = 0; bits <= 12; bits++) {
            SymbolBench bench = Op.bench(bits, Op.i(Op.FAIL, 5));
            for (int word : Edge.wordsAround(bits)) {
                CHECK.due("run(" + word + ") of " + bits, bench.run(word), Edge.isWord(word, bits) ? 4 : -1);
            }
        }
        SymbolBench bench = new SymbolBench();
        for (int k = 0; k < 4; k++) {
            bench.input(3, true);
            CHECK.due("the highest word of " + (k + 1), bench.run((8 << 3 * k) - 1), 0);
            CHECK.due("a word of more bits than " + (k + 1), bench.run(8 << 3 * k), -1);
        }
    }

    /** Stores its word and halts with it, or fails for word 0. */
    private static SymbolBench storing() {
        return Op.bench(3, Op.i(Op.INPUT, 9, 0), Op.i(Op.IF, 9, 3), Op.i(Op.FAIL, 50), Op.i(Op.STORE, 9, 9),
            Op.i(Op.HALT, 9));
    }

    private static void ran(SymbolBench bench, String when, int... want) {
        for (int what = 0; what < want.length; what++) {
            CHECK.due(when + ": ran(" + what + ")", bench.ran(what), want[what]);
        }
    }

    private static void left(SymbolBench bench, String when, int word) {
        for (int k = 0; k < 16; k++) {
            CHECK.due(when + ": register(" + k + ")", bench.register(k), k == 9 ? word : 0);
        }
        for (int k = 0; k < 8; k++) {
            CHECK.due(when + ": cell(" + k + ")", bench.cell(k), k == word ? word : 0);
        }
    }

    private static void refusedRunsDoNothing() {
        CHECK.sentence("Promise 11: NONE, doing nothing, if it is none");
        for (int word : new int[] {LEAST, -8, -1, 8, 9, 16, 4096, MOST}) {
            SymbolBench fresh = storing();
            CHECK.due("run(" + word + ") at first", fresh.run(word), -1);
            ran(fresh, "no run yet", -1, -1, -1, -1, -1, -1);
            left(fresh, "no run yet", 0);
            SymbolBench bench = storing();
            bench.explore();
            bench.run(5);
            CHECK.due("run(" + word + ") behind run(5)", bench.run(word), -1);
            ran(bench, "behind a refused run", 0, 4, 5, 4, 2, 0);
            left(bench, "behind a refused run", 5);
            bench.run(0);
            bench.run(word);
            ran(bench, "behind another refused run", 4, 2, 50, 3, 1, 1);
            left(bench, "behind another refused run", 0);
            CHECK.due("paths are known still", bench.count(3), 2);
        }
    }

    private static void aheadOfAnyRun() {
        CHECK.sentence("Promise 12: NONE ahead of any run");
        SymbolBench empty = new SymbolBench();
        ran(empty, "new", -1, -1, -1, -1, -1, -1, -1);
        SymbolBench bench = storing();
        ran(bench, "built", -1, -1, -1, -1, -1, -1, -1);
        bench.explore();
        bench.value(0, 5);
        ran(bench, "explored", -1, -1, -1, -1, -1, -1, -1);
        left(bench, "explored", 0);
        CHECK.due("run(0) of nothing", empty.run(0), 0);
        ran(empty, "nothing, run", 0, 0, 0, 0, 0, -1, -1);
    }

    private static void behindClear() {
        CHECK.sentence("Promise 12: NONE behind clear()");
        SymbolBench bench = storing();
        bench.explore();
        bench.run(5);
        ran(bench, "ahead of clear()", 0, 4, 5, 4, 2, 0);
        CHECK.due("clear()", bench.clear(), 5);
        ran(bench, "behind clear()", -1, -1, -1, -1, -1, -1, -1);
        left(bench, "behind clear()", 0);
        CHECK.due("explore()", bench.explore(), 1);
        ran(bench, "behind clear() and explore()", -1, -1, -1, -1, -1, -1);
        CHECK.due("a word of before", bench.run(5), -1);
        ran(bench, "behind clear() and a refused run", -1, -1, -1, -1, -1, -1);
        CHECK.due("run(0)", bench.run(0), 0);
        ran(bench, "run again", 0, 0, 0, 0, 0, 0);
        left(bench, "run again", 0);
        SymbolBench nothing = new SymbolBench();
        nothing.run(0);
        nothing.clear();
        ran(nothing, "behind clear() of nothing", -1, -1, -1, -1, -1, -1);
    }

    private static void anotherWhat() {
        CHECK.sentence("Promise 12: and for another what");
        SymbolBench bench = storing();
        bench.explore();
        for (int word = 0; word < 8; word++) {
            bench.run(word);
            for (int what : new int[] {LEAST, -2, -1, 6, 7, 8, 256, MOST}) {
                CHECK.due("ran(" + what + ")", bench.ran(what), -1);
            }
        }
    }

    private static void placesWhereItEnds() {
        CHECK.sentence("Promise 12: 1: the place of the instruction that ended it (how many there are, if none did)");
        int[][] enders = {{Op.HALT, 0, 0, 0}, {Op.SDIV, 0, 0, 0}, {Op.STORE, 1, 0, 0}, {Op.ASSERT, 0, 0, 0}, {Op.FAIL, 3, 0, 0}};
        for (int place : new int[] {1, 2, 58, 59}) {
            for (int k = 0; k < enders.length; k++) {
                SymbolBench bench = Op.bench(0, Op.i(Op.CONST, 1, 8));
                Edge.fill(bench, place);
                bench.tell(enders[k][0], enders[k][1], enders[k][2], enders[k][3]);
                Edge.fill(bench, 60);
                CHECK.due("run(0)", bench.run(0), k);
                ran(bench, "end " + k + " at " + place, k, place, k == 4 ? 3 : 0, place + 1);
            }
        }
        SymbolBench first = Op.bench(0, Op.i(Op.FAIL, 0), Op.i(Op.HALT, 0));
        first.run(0);
        ran(first, "FAIL at 0", 4, 0, 0, 1, 0);
        for (int size : new int[] {0, 1, 59, 60}) {
            SymbolBench bench = Edge.idle(size);
            bench.run(0);
            ran(bench, "none did, of " + size, 0, size, 0, size, 0);
        }
    }

    private static void instructionsDone() {
        CHECK.sentence("Promise 12: 3: instructions done (that one too)");
        for (int skipped = 0; skipped <= 58; skipped++) {
            SymbolBench bench = Op.bench(0, Op.i(Op.JUMP, skipped + 1));
            Edge.fill(bench, 59);
            bench.tell(Op.HALT, 0, 0, 0);
            bench.run(0);
            CHECK.due("all but " + skipped + " of 60", bench.ran(3), 60 - skipped);
            CHECK.due("its place", bench.ran(1), 59);
        }
        SymbolBench over = Op.bench(0, Op.i(Op.JUMP, 60));
        Edge.fill(over, 60);
        over.run(0);
        ran(over, "JUMP over all", 0, 60, 0, 1, 0);
        SymbolBench fails = Op.bench(1, Op.i(Op.INPUT, 0, 0), Op.i(Op.ASSERT, 0), Op.i(Op.HALT, 0));
        fails.run(0);
        CHECK.due("the one that fails is done too", fails.ran(3), 2);
        fails.run(1);
        CHECK.due("and HALT", fails.ran(3), 3);
    }

    private static void decisionsMade() {
        CHECK.sentence("Promise 12: 4: DECISIONS");
        for (int decisions : new int[] {0, 1, 2, 59, 60}) {
            SymbolBench bench = new SymbolBench();
            for (int k = 0; k < decisions; k++) {
                bench.tell(Op.IF, 0, k + 1, 0);
            }
            bench.run(0);
            ran(bench, decisions + " decisions", 0, decisions, 0, decisions, decisions);
        }
        SymbolBench skips = Op.bench(1, Op.i(Op.INPUT, 0, 0), Op.i(Op.IF, 0, 4), Op.i(Op.IF, 0, 3), Op.i(Op.ASSERT, 0));
        skips.run(0);
        CHECK.due("one that fails is made too", skips.ran(4), 3);
        skips.run(1);
        CHECK.due("those that are jumped over are not", skips.ran(4), 1);
    }

    /** Behind an IF on INPUT 0, nineteen ASSERTs that fail for one value of INPUT 1 each: twice twenty paths. */
    private static SymbolBench fortyPaths() {
        SymbolBench bench = new SymbolBench();
        bench.input(1, false);
        bench.input(5, false);
        Op.tell(bench, Op.i(Op.INPUT, 0, 0), Op.i(Op.INPUT, 1, 1), Op.i(Op.CONST, 2, 1), Op.i(Op.IF, 0, 4));
        for (int k = 0; k < 19; k++) {
            Op.tell(bench, Op.i(Op.ASSERT, 1), Op.i(Op.SUB, 1, 1, 2));
        }
        return bench;
    }

    private static void numberOfItsPath() {
        CHECK.sentence("Promise 12: 5: its PATH's number");
        SymbolBench bench = fortyPaths();
        CHECK.due("explore()", bench.explore(), 40);
        for (int word = 0; word < 64; word++) {
            int value = word & 31;
            int want = (word < 32 ? 20 : 0) + (value >= 19 ? 0 : 19 - value);
            bench.run(word);
            CHECK.due("the path of " + word, bench.ran(5), want);
            CHECK.due("it holds there", bench.holds(bench.ran(5), word), 1);
        }
    }

    private static void noneAreKnownNow() {
        CHECK.sentence("Promise 12: NONE if none are known now");
        SymbolBench bench = fortyPaths();
        bench.run(0);
        CHECK.due("not explored", bench.ran(5), -1);
        bench.explore();
        CHECK.due("explored since", bench.ran(5), 39);
        SymbolBench many = fortyPaths();
        Op.tell(many, Op.i(Op.ASSERT, 1));
        many.run(63);
        CHECK.due("too many", many.explore(), -1);
        CHECK.due("too many, run ahead", many.ran(5), -1);
        many.run(63);
        CHECK.due("too many, run behind", many.ran(5), -1);
        ran(many, "the rest is told all the same", 0, 43, 0, 43, 21);
    }

    private static void cameSince() {
        CHECK.sentence("Promise 12: or an instruction or input came since");
        SymbolBench told = storing();
        told.explore();
        told.run(5);
        CHECK.due("known", told.ran(5), 0);
        told.tell(Op.HALT, 0, 0, 0);
        CHECK.due("an instruction came", told.ran(5), -1);
        CHECK.due("explore()", told.explore(), 2);
        CHECK.due("an instruction came, explored since", told.ran(5), -1);
        told.run(0);
        CHECK.due("run since", told.ran(5), 1);
        SymbolBench given = storing();
        given.run(0);
        given.input(1, false);
        CHECK.due("explore()", given.explore(), 2);
        CHECK.due("an input came, explored since", given.ran(5), -1);
        CHECK.due("explore() again", given.explore(), 2);
        CHECK.due("explored twice since", given.ran(5), -1);
        given.run(0);
        CHECK.due("run since", given.ran(5), 1);
    }

    private static void refusedOnesCameNot() {
        CHECK.sentence("Promise 12: came since (a refused one came not)");
        SymbolBench bench = storing();
        bench.explore();
        bench.run(0);
        CHECK.due("no instruction", bench.tell(32, 0, 0, 0), -1);
        CHECK.due("no register", bench.tell(Op.HALT, 16, 0, 0), -1);
        CHECK.due("no target", bench.tell(Op.JUMP, 5, 0, 0), -1);
        CHECK.due("no bits", bench.input(0, false), -1);
        CHECK.due("too many bits", bench.input(10, false), -1);
        CHECK.due("known still", bench.ran(5), 1);
        CHECK.due("paths too", bench.count(3), 2);
    }

    private static void theLatestRun() {
        CHECK.sentence("Promise 12: Of the latest run() that was not NONE");
        SymbolBench bench = storing();
        bench.explore();
        for (int word : new int[] {5, 0, 7, 7, 1, 0}) {
            bench.run(word);
            ran(bench, "run(" + word + ")", word == 0 ? new int[] {4, 2, 50, 3, 1, 1} : new int[] {0, 4, word, 4, 2, 0});
            left(bench, "run(" + word + ")", word);
            bench.run(8);
        }
    }

    private static void theRunStays() {
        CHECK.sentence("Promise 13: Register k as that run left it (whatever comes behind it)");
        SymbolBench bench = storing();
        bench.run(6);
        bench.explore();
        bench.value(0, 1);
        bench.value(1, 1);
        bench.find(0, 0, 3);
        bench.holds(1, 3);
        ran(bench, "behind other calls", 0, 4, 6, 4, 2, 0);
        left(bench, "behind other calls", 6);
        bench.tell(Op.CONST, 9, 1, 0);
        bench.input(2, true);
        bench.explore();
        ran(bench, "behind comings", 0, 4, 6, 4, 2, -1);
        left(bench, "behind comings", 6);
    }

    private static void registersOfTheRun() {
        CHECK.sentence("Promise 13: 0 without one, or for another k");
        SymbolBench bench = new SymbolBench();
        for (int k = 0; k < 16; k++) {
            bench.tell(Op.CONST, k, -1 - k, 0);
        }
        for (int k = -1; k <= 16; k++) {
            CHECK.due("register(" + k + ") without a run", bench.register(k), 0);
        }
        bench.run(0);
        for (int k = 0; k < 16; k++) {
            CHECK.due("register(" + k + ")", bench.register(k), -1 - k);
        }
        for (int k : new int[] {LEAST, LEAST + 1, -16, -2, -1, 16, 17, 31, 32, 256, MOST}) {
            CHECK.due("register(" + k + ")", bench.register(k), 0);
        }
    }

    private static void cellsOfTheRun() {
        CHECK.sentence("Promise 14: CELL k likewise");
        SymbolBench bench = new SymbolBench();
        for (int k = 0; k < 8; k++) {
            Op.tell(bench, Op.i(Op.CONST, 0, k), Op.i(Op.CONST, 1, -1 - k), Op.i(Op.STORE, 0, 1));
        }
        for (int k = -1; k <= 8; k++) {
            CHECK.due("cell(" + k + ") without a run", bench.cell(k), 0);
        }
        bench.run(0);
        for (int k = 0; k < 8; k++) {
            CHECK.due("cell(" + k + ")", bench.cell(k), -1 - k);
        }
        for (int k : new int[] {LEAST, LEAST + 1, -8, -2, -1, 8, 9, 15, 16, 256, MOST}) {
            CHECK.due("cell(" + k + ")", bench.cell(k), 0);
        }
        bench.clear();
        CHECK.due("cell(7) behind clear()", bench.cell(7), 0);
    }
}
