/** Promises 15 to 17: failure, covered, count. */
public final class FindingsTest {
    private static final Check CHECK = new Check();

    public static void main(String[] args) {
        failuresByPlace();
        failuresOnceEach();
        failureOfTheOnlyPath();
        oldFailuresAreGone();
        noFailures();
        coveredPlaces();
        countsOfFindings();
        CHECK.finish();
    }

    /** Word 3 goes to the end; the others fail, word by word further ahead. */
    private static SymbolBench failing() {
        SymbolBench bench = new SymbolBench();
        bench.input(4, false);
        Op.tell(bench, Op.i(Op.INPUT, 0, 0), Op.i(Op.LOAD, 1, 0), Op.i(Op.ASSERT, 0), Op.i(Op.CONST, 2, 1),
            Op.i(Op.SUB, 3, 0, 2), Op.i(Op.SDIV, 4, 0, 3), Op.i(Op.SUB, 3, 3, 2), Op.i(Op.IF, 3, 9),
            Op.i(Op.FAIL, 6), Op.i(Op.HALT, 4));
        return bench;
    }

    private static void failuresByPlace() {
        SymbolBench bench = failing();
        CHECK.due("explore()", bench.explore(), 5);
        CHECK.due("count(4)", bench.count(4), 4);
        int[][] want = {{2, 1, 8}, {3, 2, 0}, {1, 5, 1}, {4, 8, 2}};
        for (int k = 0; k < want.length; k++) {
            for (int what = 0; what < 3; what++) {
                CHECK.due("failure(" + k + ", " + what + ")", bench.failure(k, what), want[k][what]);
            }
            for (int what : new int[] {-1, 3, Integer.MIN_VALUE, Integer.MAX_VALUE}) {
                CHECK.due("failure(" + k + ", " + what + ")", bench.failure(k, what), -1);
            }
        }
        for (int k : new int[] {-1, 4, 40, 60, Integer.MIN_VALUE, Integer.MAX_VALUE}) {
            for (int what = 0; what < 3; what++) {
                CHECK.due("failure(" + k + ", " + what + ")", bench.failure(k, what), -1);
            }
        }
    }

    /** Four paths end by one FAIL, and a STORE at place 3 fails ahead of it for some. */
    private static void failuresOnceEach() {
        SymbolBench bench = Op.bench(4, Op.i(Op.INPUT, 0, 0), Op.i(Op.CONST, 1, 4), Op.i(Op.AND, 2, 0, 1),
            Op.i(Op.STORE, 0, 0), Op.i(Op.IF, 2, 5), Op.i(Op.IF, 0, 6), Op.i(Op.FAIL, 3));
        CHECK.due("explore()", bench.explore(), 4);
        CHECK.due("count(4)", bench.count(4), 2);
        int[][] want = {{2, 3, 8}, {4, 6, 0}, {-1, -1, -1}};
        for (int k = 0; k < 3; k++) {
            for (int what = 0; what < 3; what++) {
                CHECK.due("failure(" + k + ", " + what + ")", bench.failure(k, what), want[k][what]);
            }
        }
    }

    private static void failureOfTheOnlyPath() {
        SymbolBench bench = Op.bench(2, Op.i(Op.FAIL, 9));
        CHECK.due("explore()", bench.explore(), 1);
        CHECK.due("its end", bench.failure(0, 0), 4);
        CHECK.due("its place", bench.failure(0, 1), 0);
        CHECK.due("its least word", bench.failure(0, 2), 0);
        CHECK.due("no second", bench.failure(1, 0), -1);
    }

    /** Behind four paths that failed at place 4, two by words below 2, a program fails there for words 2 and 3 alone. */
    private static void oldFailuresAreGone() {
        SymbolBench bench = new SymbolBench();
        bench.input(1, false);
        bench.input(1, false);
        Op.tell(bench, Op.i(Op.INPUT, 0, 0), Op.i(Op.INPUT, 1, 1), Op.i(Op.IF, 0, 3), Op.i(Op.IF, 1, 4),
            Op.i(Op.FAIL, 1));
        CHECK.due("explore()", bench.explore(), 4);
        CHECK.due("least word of the old one", bench.failure(0, 2), 0);
        bench.clear();
        bench.input(2, false);
        Op.tell(bench, Op.i(Op.INPUT, 0, 0), Op.i(Op.CONST, 1, 2), Op.i(Op.AND, 2, 0, 1), Op.i(Op.EQ, 2, 2, 3),
            Op.i(Op.ASSERT, 2), Op.i(Op.HALT, 0));
        CHECK.due("explore()", bench.explore(), 2);
        CHECK.due("count(4)", bench.count(4), 1);
        CHECK.due("its end", bench.failure(0, 0), 3);
        CHECK.due("its place", bench.failure(0, 1), 4);
        CHECK.due("its least word", bench.failure(0, 2), 2);
        bench.clear();
        CHECK.due("explore()", bench.explore(), 1);
        CHECK.due("no failure now", bench.failure(0, 0), -1);
        CHECK.due("count(4)", bench.count(4), 0);
    }

    private static void noFailures() {
        SymbolBench bench = Op.bench(2, Op.i(Op.INPUT, 0, 0), Op.i(Op.IF, 0, 3), Op.i(Op.HALT, 0), Op.i(Op.HALT, 0));
        CHECK.due("failure ahead of explore()", bench.failure(0, 0), -1);
        CHECK.due("count(4) ahead of explore()", bench.count(4), -1);
        CHECK.due("explore()", bench.explore(), 2);
        CHECK.due("failure(0, 0)", bench.failure(0, 0), -1);
        CHECK.due("count(4)", bench.count(4), 0);
    }

    private static void coveredPlaces() {
        SymbolBench bench = Op.bench(1, Op.i(Op.JUMP, 2), Op.i(Op.FAIL, 1), Op.i(Op.INPUT, 0, 0), Op.i(Op.IF, 5, 6),
            Op.i(Op.ASSERT, 0), Op.i(Op.HALT, 0), Op.i(Op.FAIL, 2));
        for (int place = -1; place <= 7; place++) {
            CHECK.due("covered(" + place + ") ahead of explore()", bench.covered(place), -1);
        }
        CHECK.due("explore()", bench.explore(), 2);
        int[] want = {1, 0, 1, 1, 1, 1, 0};
        for (int place = 0; place < want.length; place++) {
            CHECK.due("covered(" + place + ")", bench.covered(place), want[place]);
        }
        for (int place : new int[] {-1, 7, 8, 59, 60, 61, 64, Integer.MIN_VALUE, Integer.MAX_VALUE}) {
            CHECK.due("covered(" + place + ")", bench.covered(place), -1);
        }
        CHECK.due("count(5)", bench.count(5), 5);
    }

    private static void countsOfFindings() {
        SymbolBench bench = failing();
        int[] ahead = {1, 4, 10, -1, -1, -1};
        int[] behind = {1, 4, 10, 5, 4, 10};
        for (int what = 0; what < 6; what++) {
            CHECK.due("count(" + what + ") ahead of explore()", bench.count(what), ahead[what]);
        }
        bench.run(2);
        CHECK.due("run() finds nothing", bench.count(3), -1);
        bench.explore();
        for (int what = 0; what < 6; what++) {
            CHECK.due("count(" + what + ")", bench.count(what), behind[what]);
        }
        for (int what : new int[] {-1, 6, Integer.MIN_VALUE, Integer.MAX_VALUE}) {
            CHECK.due("count(" + what + ")", bench.count(what), -1);
        }
        bench.clear();
        bench.explore();
        int[] cleared = {0, 0, 0, 1, 0, 0};
        for (int what = 0; what < 6; what++) {
            CHECK.due("count(" + what + ") cleared", bench.count(what), cleared[what]);
        }
    }
}
