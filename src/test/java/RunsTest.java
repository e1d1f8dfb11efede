/** Promises 11 to 14: run, ran, register, cell, and how they stand behind other calls. */
public final class RunsTest {
    private static final Check CHECK = new Check();

    public static void main(String[] args) {
        wordsThatAreNone();
        refusedRunsDoNothing();
        latestRunStays();
        everyRunBeginsAnew();
        pathOfTheRun();
        pathIsGoneBehindChanges();
        CHECK.finish();
    }

    private static SymbolBench bench() {
        return Op.bench(3, Op.i(Op.INPUT, 0, 0), Op.i(Op.IF, 0, 3), Op.i(Op.FAIL, 50), Op.i(Op.STORE, 0, 0),
            Op.i(Op.HALT, 0));
    }

    private static void wordsThatAreNone() {
        SymbolBench bench = bench();
        for (int word : new int[] {-1, 8, 9, 4096, Integer.MIN_VALUE, Integer.MAX_VALUE}) {
            CHECK.due("run(" + word + ")", bench.run(word), -1);
            CHECK.due("ran(0)", bench.ran(0), -1);
        }
        SymbolBench empty = new SymbolBench();
        CHECK.due("run(1) without inputs", empty.run(1), -1);
        CHECK.due("run(-1) without inputs", empty.run(-1), -1);
        CHECK.due("run(0) without inputs", empty.run(0), 0);
        SymbolBench wide = Op.bench(12, Op.i(Op.INPUT, 0, 0), Op.i(Op.HALT, 0));
        CHECK.due("run(4095)", wide.run(4095), 0);
        CHECK.due("its RESULT", wide.ran(2), 4095);
        CHECK.due("run(4096)", wide.run(4096), -1);
    }

    private static void refusedRunsDoNothing() {
        SymbolBench bench = bench();
        bench.run(5);
        CHECK.due("run(8)", bench.run(8), -1);
        left(bench, 0, 4, 5, 4, 2);
        CHECK.due("register(0)", bench.register(0), 5);
        CHECK.due("cell(5)", bench.cell(5), 5);
    }

    /** The answers of ran(0) to ran(4), and those that are NONE always. */
    private static void left(SymbolBench bench, int... want) {
        for (int what = 0; what < 5; what++) {
            CHECK.due("ran(" + what + ")", bench.ran(what), want[what]);
        }
        for (int what : new int[] {-1, 6, 7, Integer.MIN_VALUE, Integer.MAX_VALUE}) {
            CHECK.due("ran(" + what + ")", bench.ran(what), -1);
        }
    }

    private static void latestRunStays() {
        SymbolBench bench = bench();
        bench.run(6);
        left(bench, 0, 4, 6, 4, 2);
        bench.explore();
        bench.value(0, 3);
        bench.value(1, 3);
        left(bench, 0, 4, 6, 4, 2);
        CHECK.due("register behind explore()", bench.register(0), 6);
        CHECK.due("cell behind explore()", bench.cell(6), 6);
        bench.run(0);
        left(bench, 4, 2, 50, 3, 1);
        bench.tell(Op.HALT, 0, 0, 0);
        bench.input(2, false);
        left(bench, 4, 2, 50, 3, 1);
        CHECK.due("register behind an instruction", bench.register(0), 0);
    }

    private static void everyRunBeginsAnew() {
        SymbolBench bench = Op.bench(3, Op.i(Op.INPUT, 0, 0), Op.i(Op.LOAD, 1, 2), Op.i(Op.ADD, 3, 3, 0),
            Op.i(Op.ADD, 3, 3, 1), Op.i(Op.STORE, 2, 3), Op.i(Op.HALT, 3));
        for (int word = 7; word >= 0; word--) {
            bench.run(word);
            CHECK.due("RESULT of " + word, bench.ran(2), word);
            CHECK.due("cell(0) of " + word, bench.cell(0), word);
            CHECK.due("register(3) of " + word, bench.register(3), word);
        }
    }

    private static void pathOfTheRun() {
        SymbolBench bench = bench();
        bench.run(0);
        CHECK.due("none known", bench.ran(5), -1);
        CHECK.due("explore()", bench.explore(), 2);
        CHECK.due("explored since", bench.ran(5), 1);
        bench.run(7);
        CHECK.due("explored ahead", bench.ran(5), 0);
        bench.run(99);
        CHECK.due("behind a refused run", bench.ran(5), 0);
        bench.clear();
        bench.explore();
        CHECK.due("behind clear()", bench.ran(5), -1);
    }

    private static void pathIsGoneBehindChanges() {
        SymbolBench bench = bench();
        bench.explore();
        bench.run(3);
        bench.tell(Op.FAIL, 0, 0, 0);
        CHECK.due("an instruction came", bench.ran(5), -1);
        CHECK.due("explore()", bench.explore(), 2);
        CHECK.due("an instruction came, explored since", bench.ran(5), -1);
        bench.run(3);
        CHECK.due("run again", bench.ran(5), 0);
        bench.input(1, false);
        CHECK.due("an input came", bench.ran(5), -1);
        bench.explore();
        CHECK.due("an input came, explored since", bench.ran(5), -1);
        bench.run(1);
        CHECK.due("run again behind an input", bench.ran(5), 1);
        bench.tell(Op.FAIL, 256, 0, 0);
        CHECK.due("a refused instruction", bench.ran(5), 1);
    }
}
