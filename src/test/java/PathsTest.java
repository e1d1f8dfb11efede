/** Promises 5 to 10: explore, path, decision, holds, value, find. */
public final class PathsTest {
    private static final Check CHECK = new Check();
    private static final int LEAST = Integer.MIN_VALUE;
    private static final int MOST = Integer.MAX_VALUE;

    public static void main(String[] args) {
        ordersByFirstUnlikeDecision();
        decisionsWithOneOutcome();
        sixtyDecisions();
        fortyPathsAndOneMore();
        tooManyInTheirOrder();
        allWordsOfTwelveBits();
        inputWordsAreLaidOut();
        resultsThatVary();
        pathsThatAreNot();
        holdsForItsWords();
        valueOfDivisionsByZero();
        valueOfCellsThatAreNot();
        valueAlongOtherDecisions();
        findsByRelation();
        findsOnThePathAlone();
        CHECK.finish();
    }

    /** IF the high bit, else IF the low bit, ASSERT the low bit. */
    private static SymbolBench twoBits() {
        return Op.bench(2, Op.i(Op.INPUT, 0, 0), Op.i(Op.CONST, 1, 1), Op.i(Op.AND, 2, 0, 1), Op.i(Op.SHR, 3, 0, 1),
            Op.i(Op.IF, 3, 7), Op.i(Op.CONST, 4, 10), Op.i(Op.IF, 2, 8), Op.i(Op.ASSERT, 2), Op.i(Op.HALT, 4));
    }

    private static void ordersByFirstUnlikeDecision() {
        SymbolBench bench = twoBits();
        CHECK.due("explore()", bench.explore(), 4);
        CHECK.due("count(3)", bench.count(3), 4);
        onePath(bench, 0, 0, 8, 2, 3, 0, 1, 9, 15);
        onePath(bench, 1, 3, 7, 2, 2, 0, 1, 9, 14);
        onePath(bench, 2, 0, 8, 2, 1, 10, 1, 8, 13);
        onePath(bench, 3, 3, 7, 3, 0, 0, 1, 8, 12, 14);
        CHECK.due("explore() again", bench.explore(), 4);
        onePath(bench, 2, 0, 8, 2, 1, 10, 1, 8, 13);
    }

    /** What is due of a path: the six answers of path(), then its decisions. */
    private static void onePath(SymbolBench bench, int i, int... want) {
        int decisions = want.length - 6;
        for (int what = 0; what < 6; what++) {
            CHECK.due("path(" + i + ", " + what + ")", bench.path(i, what), want[what]);
        }
        for (int j = 0; j < decisions; j++) {
            CHECK.due("decision(" + i + ", " + j + ")", bench.decision(i, j), want[6 + j]);
        }
        for (int j : new int[] {decisions, decisions + 1, 60, -1, LEAST, MOST}) {
            CHECK.due("decision(" + i + ", " + j + ")", bench.decision(i, j), -1);
        }
        for (int what : new int[] {-1, 6, 7, LEAST, MOST}) {
            CHECK.due("path(" + i + ", " + what + ")", bench.path(i, what), 0);
        }
    }

    /** Decisions that can fall only one way, and an IF whose two ways meet at once, are decisions all the same. */
    private static void decisionsWithOneOutcome() {
        SymbolBench bench = Op.bench(1, Op.i(Op.CONST, 1, 6), Op.i(Op.UDIV, 2, 1, 1), Op.i(Op.STORE, 1, 2),
            Op.i(Op.LOAD, 3, 1), Op.i(Op.ASSERT, 1), Op.i(Op.INPUT, 0, 0), Op.i(Op.IF, 0, 7), Op.i(Op.HALT, 3));
        CHECK.due("explore()", bench.explore(), 2);
        onePath(bench, 0, 0, 7, 5, 1, 1, 1, 3, 5, 7, 9, 13);
        onePath(bench, 1, 0, 7, 5, 0, 1, 1, 3, 5, 7, 9, 12);
    }

    private static void sixtyDecisions() {
        SymbolBench zeros = new SymbolBench();
        SymbolBench last = Op.bench(1, Op.i(Op.INPUT, 0, 0));
        for (int place = 0; place < 60; place++) {
            zeros.tell(Op.IF, 0, place + 1, 0);
            if (place > 0) {
                last.tell(Op.IF, place == 59 ? 0 : 5, place + 1, 0);
            }
        }
        CHECK.due("sixty IFs", zeros.explore(), 1);
        CHECK.due("their decisions", zeros.path(0, 2), 60);
        CHECK.due("their end", zeros.path(0, 1), 60);
        CHECK.due("the last IF tells", last.explore(), 2);
        for (int j = 0; j < 60; j++) {
            CHECK.due("decision " + j + " of sixty", zeros.decision(0, j), 2 * j);
        }
        CHECK.due("the last decision is 1", last.decision(0, 58), 119);
        CHECK.due("the last decision is 0", last.decision(1, 58), 118);
        CHECK.due("least word with 1", last.path(0, 3), 1);
        CHECK.due("least word with 0", last.path(1, 3), 0);
    }

    /**
     * So many values of INPUT 0 are told apart from the rest, each with both values of INPUT 1; one more path comes by
     * INPUT 2, for one of them alone.
     */
    private static SymbolBench manyPaths(int values, boolean oneMore) {
        SymbolBench bench = new SymbolBench();
        bench.input(5, false);
        bench.input(1, false);
        bench.input(1, false);
        Op.tell(bench, Op.i(Op.INPUT, 0, 0), Op.i(Op.INPUT, 1, 1), Op.i(Op.INPUT, 2, 2), Op.i(Op.CONST, 3, 1),
            Op.i(Op.IF, 1, 5));
        for (int k = 0; k < values; k++) {
            bench.tell(Op.IF, 0, bench.count(2) + 1, 0);
            bench.tell(Op.SUB, 0, 0, 3);
        }
        if (oneMore) {
            Op.tell(bench, Op.i(Op.INPUT, 0, 0), Op.i(Op.EQ, 4, 0, 3), Op.i(Op.AND, 4, 4, 1), Op.i(Op.AND, 4, 4, 2),
                Op.i(Op.IF, 4, 60));
        }
        return bench;
    }

    private static void fortyPathsAndOneMore() {
        CHECK.due("38 paths", manyPaths(18, false).explore(), 38);
        CHECK.due("39 paths", manyPaths(18, true).explore(), 39);
        SymbolBench forty = manyPaths(19, false);
        CHECK.due("40 paths", forty.explore(), 40);
        for (int i = 0; i < 40; i++) {
            // The first of twenty are the values from 19 on, then 18, and so down to 0; INPUT 1 is 1 in the first half.
            int least = 4 * (19 - i % 20) + (i < 20 ? 2 : 0);
            CHECK.due("path(" + i + ", 3)", forty.path(i, 3), least);
            CHECK.due("path(" + i + ", 2)", forty.path(i, 2), 20);
        }
        CHECK.due("no failure of 40 paths", forty.failure(0, 0), -1);
        SymbolBench many = manyPaths(19, true);
        CHECK.due("41 paths", many.explore(), -1);
        noneKnown(many);
        CHECK.due("41 paths again", many.explore(), -1);
        many.clear();
        CHECK.due("cleared", many.explore(), 1);
        SymbolBench grown = manyPaths(19, false);
        grown.explore();
        Op.tell(grown, Op.i(Op.INPUT, 2, 2), Op.i(Op.IF, 2, 60));
        CHECK.due("80 paths, behind 40", grown.explore(), -1);
        noneKnown(grown);
    }

    /** Lesser words go the paths ahead: forty paths are met in their order, and the next stands behind all of them. */
    private static void tooManyInTheirOrder() {
        for (int values = 18; values <= 20; values++) {
            SymbolBench bench = new SymbolBench();
            bench.input(1, false);
            bench.input(5, false);
            Op.tell(bench, Op.i(Op.INPUT, 0, 0), Op.i(Op.INPUT, 1, 1), Op.i(Op.CONST, 2, 1), Op.i(Op.CONST, 3, 31),
                Op.i(Op.XOR, 0, 0, 2), Op.i(Op.XOR, 1, 1, 3), Op.i(Op.IF, 0, 7));
            for (int k = 0; k < values; k++) {
                bench.tell(Op.IF, 1, bench.count(2) + 1, 0);
                bench.tell(Op.SUB, 1, 1, 2);
            }
            CHECK.due("explore()", bench.explore(), values == 20 ? -1 : 2 * (values + 1));
            CHECK.due("the last path", bench.path(2 * values + 1, 3), values == 20 ? -1 : 63);
        }
    }

    /** Only the last word goes its own path, and it is the last to be looked for. */
    private static void allWordsOfTwelveBits() {
        SymbolBench bench = Op.bench(12, Op.i(Op.INPUT, 0, 0), Op.i(Op.CONST, 1, 4095), Op.i(Op.SUB, 2, 0, 1),
            Op.i(Op.IF, 2, 5), Op.i(Op.HALT, 0), Op.i(Op.HALT, 0));
        CHECK.due("explore()", bench.explore(), 2);
        onePath(bench, 0, 0, 5, 1, 0, 0, 0, 7);
        onePath(bench, 1, 0, 4, 1, 4095, 4095, 1, 6);
        CHECK.due("holds(1, 4095)", bench.holds(1, 4095), 1);
        CHECK.due("holds(1, 4096)", bench.holds(1, 4096), -1);
        CHECK.due("find the last", bench.find(1, 0, 4095), 4095);
        CHECK.due("find the last but one", bench.find(0, 0, 4094), 4094);
        CHECK.due("find none", bench.find(0, 0, 4095), -1);
    }

    private static void noneKnown(SymbolBench bench) {
        for (int what = 3; what <= 5; what++) {
            CHECK.due("too many: count(" + what + ")", bench.count(what), -1);
        }
        for (int what = -1; what <= 6; what++) {
            CHECK.due("too many: path(0, " + what + ")", bench.path(0, what), -1);
        }
        CHECK.due("too many: decision", bench.decision(0, 0), -1);
        CHECK.due("too many: holds", bench.holds(0, 0), -1);
        CHECK.due("too many: value", bench.value(0, 0), 0);
        CHECK.due("too many: find", bench.find(0, 1, 77), -1);
        CHECK.due("too many: covered", bench.covered(0), -1);
        CHECK.due("too many: failure", bench.failure(0, 0), -1);
        CHECK.due("too many: run", bench.run(7), 0);
        CHECK.due("too many: ran(5)", bench.ran(5), -1);
    }

    private static void inputWordsAreLaidOut() {
        SymbolBench bench = new SymbolBench();
        bench.input(3, true);
        bench.input(2, false);
        Op.tell(bench, Op.i(Op.INPUT, 0, 0), Op.i(Op.INPUT, 1, 1));
        laidOut(bench, 0b101_10, -3, 2, 0, 0);
        bench.input(4, true);
        bench.input(1, true);
        Op.tell(bench, Op.i(Op.INPUT, 2, 2), Op.i(Op.INPUT, 3, 3));
        laidOut(bench, 0b101_10_0111_1, -3, 2, 7, -1);
        laidOut(bench, 0b011_11_1000_0, 3, 3, -8, 0);
        laidOut(bench, 0b111_01_1111_1, -1, 1, -1, -1);
        laidOut(bench, 0, 0, 0, 0, 0);
        CHECK.due("a word of more bits", bench.run(1 << 10), -1);
        SymbolBench wide = new SymbolBench();
        wide.input(12, true);
        wide.tell(Op.INPUT, 0, 0, 0);
        laidOut(wide, 2047, 2047, 0, 0, 0);
        laidOut(wide, 2048, -2048, 0, 0, 0);
        laidOut(wide, 4095, -1, 0, 0, 0);
    }

    private static void laidOut(SymbolBench bench, int word, int... inputs) {
        CHECK.due("run(" + word + ")", bench.run(word), 0);
        for (int k = 0; k < inputs.length; k++) {
            CHECK.due("INPUT " + k + " in " + word, bench.register(k), inputs[k]);
        }
    }

    /** RESULT at words 0 to 7 is 5 but for one word. */
    private static void resultsThatVary() {
        for (int odd = -1; odd < 8; odd++) {
            SymbolBench bench = Op.bench(3, Op.i(Op.INPUT, 0, 0), Op.i(Op.CONST, 1, odd), Op.i(Op.EQ, 2, 0, 1),
                Op.i(Op.CONST, 3, 5), Op.i(Op.SELECT, 3, 2, 0), Op.i(Op.HALT, 3));
            CHECK.due("explore()", bench.explore(), 1);
            CHECK.due("RESULT at the least word", bench.path(0, 4), odd == 0 ? 0 : 5);
            CHECK.due("one RESULT, odd is " + odd, bench.path(0, 5), odd == -1 || odd == 5 ? 1 : 0);
        }
    }

    private static void pathsThatAreNot() {
        SymbolBench bench = twoBits();
        bench.explore();
        for (int i : new int[] {-1, 4, 5, 39, 40, 41, LEAST, MOST}) {
            for (int what = -1; what <= 6; what++) {
                CHECK.due("path(" + i + ", " + what + ")", bench.path(i, what), -1);
            }
            CHECK.due("decision(" + i + ", 0)", bench.decision(i, 0), -1);
            CHECK.due("holds(" + i + ", 0)", bench.holds(i, 0), -1);
            CHECK.due("value(" + i + ", 1)", bench.value(i, 1), 0);
            CHECK.due("find(" + i + ", 1, 77)", bench.find(i, 1, 77), -1);
        }
    }

    private static void holdsForItsWords() {
        SymbolBench bench = twoBits();
        bench.explore();
        for (int i = 0; i < 4; i++) {
            for (int word = 0; word < 4; word++) {
                CHECK.due("holds(" + i + ", " + word + ")", bench.holds(i, word), i + word == 3 ? 1 : 0);
            }
            for (int word : new int[] {-1, 4, 5, 4096, LEAST, MOST}) {
                CHECK.due("holds(" + i + ", " + word + ")", bench.holds(i, word), -1);
                CHECK.due("value(" + i + ", " + word + ")", bench.value(i, word), 0);
            }
        }
    }

    private static void valueOfDivisionsByZero() {
        int[] byZero = {-1, -100, -1, -100};
        int[] byTwo = {0x7FFFFFCE, 0, -50, 0};
        for (int k = 0; k < 4; k++) {
            SymbolBench bench = Op.bench(2, Op.i(Op.INPUT, 0, 0), Op.i(Op.CONST, 1, -100),
                Op.i(Op.UDIV + k, 2, 1, 0), Op.i(Op.HALT, 2));
            CHECK.due("explore()", bench.explore(), 2);
            CHECK.due("value by 0, kind " + k, bench.value(0, 0), byZero[k]);
            CHECK.due("value by 2, kind " + k, bench.value(0, 2), byTwo[k]);
            CHECK.due("value where it fails, kind " + k, bench.value(1, 0), 0);
            CHECK.due("value by 2 where it fails, kind " + k, bench.value(1, 2), 0);
        }
    }

    private static void valueOfCellsThatAreNot() {
        SymbolBench load = Op.bench(4, Op.i(Op.INPUT, 0, 0), Op.i(Op.CONST, 1, 5), Op.i(Op.CONST, 2, 3),
            Op.i(Op.STORE, 2, 1), Op.i(Op.CONST, 3, 66), Op.i(Op.LOAD, 3, 0), Op.i(Op.HALT, 3));
        CHECK.due("explore()", load.explore(), 2);
        CHECK.due("LOAD of the cell", load.value(0, 3), 5);
        CHECK.due("LOAD of another", load.value(0, 2), 0);
        CHECK.due("LOAD of 8", load.value(0, 8), 0);
        CHECK.due("LOAD of 11", load.value(0, 11), 0);
        CHECK.due("LOAD where it fails", load.value(1, 3), 0);
        SymbolBench store = Op.bench(4, Op.i(Op.INPUT, 0, 0), Op.i(Op.CONST, 1, 5), Op.i(Op.CONST, 2, 3),
            Op.i(Op.STORE, 0, 1), Op.i(Op.LOAD, 3, 2), Op.i(Op.HALT, 3));
        CHECK.due("explore()", store.explore(), 2);
        CHECK.due("STORE at the cell", store.value(0, 3), 5);
        CHECK.due("STORE at 8", store.value(0, 8), 0);
        CHECK.due("STORE at 11", store.value(0, 11), 0);
        CHECK.due("STORE at 15", store.value(0, 15), 0);
        CHECK.due("STORE where it fails", store.value(1, 3), 0);
    }

    private static void valueAlongOtherDecisions() {
        SymbolBench bench = Op.bench(3, Op.i(Op.INPUT, 0, 0), Op.i(Op.CONST, 1, 100), Op.i(Op.CONST, 2, 4),
            Op.i(Op.ULT, 3, 0, 2), Op.i(Op.IF, 3, 7), Op.i(Op.ADD, 4, 0, 1), Op.i(Op.HALT, 4),
            Op.i(Op.ASSERT, 0), Op.i(Op.SUB, 4, 0, 1), Op.i(Op.IF, 0, 11), Op.i(Op.FAIL, 9), Op.i(Op.HALT, 4));
        CHECK.due("explore()", bench.explore(), 3);
        for (int word = 0; word < 8; word++) {
            CHECK.due("value(0, " + word + ")", bench.value(0, word), word - 100);
            CHECK.due("value(1, " + word + ")", bench.value(1, word), 0);
            CHECK.due("value(2, " + word + ")", bench.value(2, word), word + 100);
        }
        SymbolBench fails = Op.bench(1, Op.i(Op.INPUT, 0, 0), Op.i(Op.IF, 0, 3), Op.i(Op.JUMP, 4),
            Op.i(Op.FAIL, 200));
        CHECK.due("explore()", fails.explore(), 2);
        CHECK.due("FAIL for another word", fails.value(0, 0), 200);
        CHECK.due("behind the last for another word", fails.value(1, 1), 0);
        fails.run(1);
        fails.value(1, 0);
        CHECK.due("the run stays behind value()", fails.ran(0), 4);
        CHECK.due("its register stays", fails.register(0), 1);
    }

    /** One path, RESULT is the word less 4. */
    private static void findsByRelation() {
        SymbolBench bench = Op.bench(3, Op.i(Op.INPUT, 0, 0), Op.i(Op.CONST, 1, 4), Op.i(Op.SUB, 2, 0, 1),
            Op.i(Op.HALT, 2));
        CHECK.due("explore()", bench.explore(), 1);
        int[][] cases = {
            {0, -4, 0}, {0, -1, 3}, {0, 3, 7}, {0, 4, -1}, {0, -5, -1},
            {1, -4, 1}, {1, 5, 0}, {1, -3, 0},
            {2, 0, -1}, {2, 1, 4}, {2, 3, 4}, {2, -4, 4}, {2, -3, 0}, {2, -1, 0}, {2, LEAST, 4}, {2, MOST, 4},
            {3, -4, -1}, {3, -3, 0}, {3, 0, 0}, {3, MOST, 0}, {3, LEAST, -1}, {3, -5, -1},
            {-1, 0, -1}, {4, 0, -1}, {5, -4, -1}, {LEAST, 0, -1}, {MOST, 0, -1}
        };
        for (int[] one : cases) {
            CHECK.due("find(0, " + one[0] + ", " + one[1] + ")", bench.find(0, one[0], one[1]), one[2]);
        }
        SymbolBench still = Op.bench(3, Op.i(Op.CONST, 0, 6), Op.i(Op.HALT, 0));
        still.explore();
        CHECK.due("no other RESULT", still.find(0, 1, 6), -1);
    }

    /** Odd words go one path, even ones the other; RESULT is the word. */
    private static void findsOnThePathAlone() {
        SymbolBench bench = Op.bench(4, Op.i(Op.INPUT, 0, 0), Op.i(Op.CONST, 1, 1), Op.i(Op.AND, 2, 0, 1),
            Op.i(Op.IF, 2, 5), Op.i(Op.HALT, 0), Op.i(Op.HALT, 0));
        CHECK.due("explore()", bench.explore(), 2);
        for (int word = 0; word < 16; word++) {
            CHECK.due("find(0, 0, " + word + ")", bench.find(0, 0, word), word % 2 == 1 ? word : -1);
            CHECK.due("find(1, 0, " + word + ")", bench.find(1, 0, word), word % 2 == 0 ? word : -1);
        }
        CHECK.due("not 1, odd", bench.find(0, 1, 1), 3);
        CHECK.due("not 0, even", bench.find(1, 1, 0), 2);
        CHECK.due("below 1, odd", bench.find(0, 3, 1), -1);
        CHECK.due("below 1, even", bench.find(1, 3, 1), 0);
    }
}
