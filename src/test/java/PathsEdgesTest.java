/** The boundaries of paths, sentence by sentence: what the Terms say of PATHS, and promises 5 to 10. */
public final class PathsEdgesTest {
    private static final Check CHECK = new Check();
    private static final int LEAST = Edge.LEAST;
    private static final int MOST = Edge.MOST;
    private static final int[] NO_CELLS = {LEAST, LEAST + 7, -8, -1, 8, 9, 15, 16, 256, 65536, MOST};

    public static void main(String[] args) {
        someInputMakesIt();
        firstUnlikeDecision();
        unlikeAtEachPlace();
        moreThanForty();
        theLastWordMakesOneTooMany();
        oneTooManyAtEachEnd();
        noneIsKnownThen();
        exploringAgain();
        comingsForget();
        clearForgets();
        nothingOldStays();
        oldFailuresAreNoMatter();
        nothingIsKnownAtFirst();
        pathNumbers();
        pathEndsAndPlaces();
        pathDecisions();
        pathLeastWord();
        pathSameResult();
        pathAnotherWhat();
        decisionNumbers();
        holdsOfWords();
        holdsOfOnePathOnly();
        valueOfWords();
        valueByZero();
        valueOfLoads();
        valueOfStores();
        valueKeepsToDecisions();
        findOfEachRelation();
        findTheLeast();
        findNone();
        CHECK.finish();
    }

    // Terms

    private static void someInputMakesIt() {
        CHECK.sentence("Terms: A PATH is a row of DECISIONS that some input makes");
        for (int limit = 0; limit <= 9; limit++) {
            SymbolBench bench = Op.bench(3, Op.i(Op.INPUT, 0, 0), Op.i(Op.CONST, 1, limit), Op.i(Op.ULT, 2, 0, 1),
                Op.i(Op.ASSERT, 2), Op.i(Op.ULT, 2, 0, 1), Op.i(Op.IF, 2, 7), Op.i(Op.FAIL, 1));
            boolean someHold = limit > 0;
            boolean someFail = limit < 8;
            CHECK.due("words below " + limit, bench.explore(), someHold && someFail ? 2 : 1);
            CHECK.due("the first decision", bench.decision(0, 0), someHold ? 7 : 6);
            CHECK.due("the FAIL that none comes to", bench.covered(6), 0);
        }
        SymbolBench last = Op.bench(12, Op.i(Op.INPUT, 0, 0), Op.i(Op.CONST, 1, 4095), Op.i(Op.EQ, 2, 0, 1),
            Op.i(Op.IF, 2, 5));
        CHECK.due("one word of 4096", last.explore(), 2);
        CHECK.due("that word", last.path(0, 3), 4095);
        SymbolBench none = Op.bench(12, Op.i(Op.INPUT, 0, 0), Op.i(Op.CONST, 1, 4096), Op.i(Op.EQ, 2, 0, 1),
            Op.i(Op.IF, 2, 5));
        CHECK.due("no word of 4096", none.explore(), 1);
    }

    /** Each word of three bits goes its own path, by its bits from the highest on, or from the lowest on. */
    private static void firstUnlikeDecision() {
        CHECK.sentence("Terms: PATHS are in order: by the first DECISION that is unlike, 1 ahead of 0");
        for (int reversed = 0; reversed < 2; reversed++) {
            SymbolBench bench = Op.bench(3, Op.i(Op.INPUT, 0, 0));
            for (int k = 0; k < 3; k++) {
                int bit = 1 << (reversed == 1 ? k : 2 - k);
                Op.tell(bench, Op.i(Op.CONST, 1, bit), Op.i(Op.AND, 1, 0, 1), Op.i(Op.IF, 1, 4 + 3 * k));
            }
            CHECK.due("explore()", bench.explore(), 8);
            for (int i = 0; i < 8; i++) {
                int mirrored = (i & 1) << 2 | i & 2 | i >> 2;
                CHECK.due("the word of path " + i, bench.path(i, 3), 7 - (reversed == 1 ? mirrored : i));
            }
        }
        SymbolBench lengths = Op.bench(2, Op.i(Op.INPUT, 0, 0), Op.i(Op.CONST, 1, 1), Op.i(Op.SUB, 2, 0, 1),
            Op.i(Op.IF, 0, 5), Op.i(Op.HALT, 0), Op.i(Op.ASSERT, 2), Op.i(Op.SUB, 2, 2, 1), Op.i(Op.ASSERT, 2));
        CHECK.due("paths of unlike lengths", lengths.explore(), 4);
        int[] words = {3, 2, 1, 0};
        int[] decisions = {3, 3, 2, 1};
        for (int i = 0; i < 4; i++) {
            CHECK.due("least word of path " + i, lengths.path(i, 3), words[i]);
            CHECK.due("decisions of path " + i, lengths.path(i, 2), decisions[i]);
        }
    }

    /** Two paths that part at one place of sixty, where 1 is the lesser word's decision or the greater one's. */
    private static void unlikeAtEachPlace() {
        CHECK.sentence("Terms: by the first DECISION that is unlike, 1 ahead of 0 (at each place)");
        for (int place = 2; place < 60; place++) {
            for (int flip = 0; flip < 2; flip++) {
                SymbolBench bench = Op.bench(1, Op.i(Op.INPUT, 0, 0), flip == 1 ? Op.i(Op.EQ, 0, 0, 1) : Op.i(Op.COPY, 1, 1));
                for (int k = 2; k < 60; k++) {
                    bench.tell(Op.IF, k == place ? 0 : k % 2 == 0 ? 5 : 6, k + 1, 0);
                }
                CHECK.due("explore()", bench.explore(), 2);
                CHECK.due("the first path's word", bench.path(0, 3), 1 - flip);
                CHECK.due("the first path's decision", bench.decision(0, place - 2), 2 * place + 1);
                CHECK.due("the second path's decision", bench.decision(1, place - 2), 2 * place);
                CHECK.due("the last decision", bench.decision(1, 57), 118);
                CHECK.due("no further one", bench.decision(1, 58), -1);
            }
        }
    }

    /** ASSERTs, each failing for one word: so many paths, and one more where all hold. Two instructions for each. */
    private static SymbolBench asserting(int bits, int failing) {
        SymbolBench bench = Op.bench(bits, Op.i(Op.INPUT, 0, 0), Op.i(Op.CONST, 1, 1));
        for (int k = 0; k < failing; k++) {
            Op.tell(bench, Op.i(Op.ASSERT, 0), Op.i(Op.SUB, 0, 0, 1));
        }
        return bench;
    }

    /** So many IFs on bits of their own, and then some ASSERTs on the highest paths: 2^ifs paths and more. */
    private static SymbolBench branching(int ifs, int more) {
        SymbolBench bench = Op.bench(12, Op.i(Op.INPUT, 0, 0), Op.i(Op.CONST, 1, 1), Op.i(Op.COPY, 2, 0));
        for (int k = 0; k < ifs; k++) {
            Op.tell(bench, Op.i(Op.AND, 3, 2, 1), Op.i(Op.IF, 3, bench.count(2) + 2), Op.i(Op.SHR, 2, 2, 1));
        }
        for (int k = 0; k < more; k++) {
            Op.tell(bench, Op.i(Op.CONST, 4, 4095 - k), Op.i(Op.SUB, 4, 0, 4), Op.i(Op.ASSERT, 4));
        }
        return bench;
    }

    private static void moreThanForty() {
        CHECK.sentence("Terms: There are too many if there are more than 40");
        for (int more = 6; more <= 10; more++) {
            int paths = 32 + more;
            SymbolBench bench = branching(5, more);
            CHECK.due(paths + " paths", bench.explore(), paths <= 40 ? paths : -1);
            CHECK.due(paths + " paths: count(3)", bench.count(3), paths <= 40 ? paths : -1);
            CHECK.due("the last path", bench.path(paths - 1, 3), paths <= 40 ? 0 : -1);
            CHECK.due("none behind it", bench.path(paths, 3), -1);
        }
        CHECK.due("64 paths", branching(6, 0).explore(), -1);
        CHECK.due("4096 paths", branching(12, 0).explore(), -1);
        CHECK.due("29 paths", asserting(5, 28).explore(), 29);
    }

    /** Forty paths are known from lesser words; only the last word goes, or does not go, one more. */
    private static void theLastWordMakesOneTooMany() {
        CHECK.sentence("Terms: There are too many if there are more than 40 (by the last word alone)");
        SymbolBench thirtyNine = branching(5, 7);
        CHECK.due("39 paths", thirtyNine.explore(), 39);
        CHECK.due("39 paths: the last one's word", thirtyNine.path(38, 3), 0);
        for (int more = 7; more <= 9; more++) {
            SymbolBench bench = branching(5, more);
            int paths = 32 + more;
            CHECK.due("explore()", bench.explore(), paths > 40 ? -1 : paths);
            bench.run(4095);
            CHECK.due("the last word fails", bench.ran(0), 3);
            CHECK.due("and goes its own path", bench.ran(5) >= 0 ? bench.path(bench.ran(5), 3) : -1, paths > 40 ? -1 : 4095);
        }
    }

    /** Forty paths, and one more for a word that is told apart at once: it stands ahead of all others, or behind. */
    private static void oneTooManyAtEachEnd() {
        CHECK.sentence("Terms: There are too many if there are more than 40 (ahead of all, behind all)");
        for (int word : new int[] {-1, 40, 62, 63, 64}) {
            boolean isWord = Edge.isWord(word, 6);
            for (int values = 19; values <= 20; values++) {
                int paths = 2 * values + (isWord ? 1 : 0);
                SymbolBench ahead = oneApart(values, Op.i(Op.CONST, 2, word), Op.i(Op.EQ, 2, 0, 2), Op.i(Op.IF, 2, 60));
                CHECK.due(paths + " paths, one ahead", ahead.explore(), paths <= 40 ? paths : -1);
                CHECK.due("the one ahead", ahead.path(0, 2), paths > 40 ? -1 : isWord ? 1 : 1 + values);
                SymbolBench behind = oneApart(values, Op.i(Op.CONST, 2, word), Op.i(Op.SUB, 2, 0, 2), Op.i(Op.IF, 2, 6),
                    Op.i(Op.HALT, 0));
                CHECK.due(paths + " paths, one behind", behind.explore(), paths <= 40 ? paths : -1);
                CHECK.due("the one behind", behind.path(paths - 1, 2), paths > 40 ? -1 : isWord ? 1 : 1 + values);
                CHECK.due("a failure", ahead.failure(0, 0) + behind.failure(0, 0), -2);
            }
        }
    }

    /** First the instructions given; then the lowest bit is told apart, and of the other five so many values. */
    private static SymbolBench oneApart(int values, int[]... instructions) {
        SymbolBench bench = Op.bench(6, Op.i(Op.INPUT, 0, 0), Op.i(Op.CONST, 1, 1));
        Op.tell(bench, instructions);
        Op.tell(bench, Op.i(Op.AND, 3, 0, 1), Op.i(Op.IF, 3, bench.count(2) + 2), Op.i(Op.SHR, 0, 0, 1));
        for (int k = 1; k < values; k++) {
            Op.tell(bench, Op.i(Op.IF, 0, bench.count(2) + 1), Op.i(Op.SUB, 0, 0, 1));
        }
        return bench;
    }

    private static void noneKnown(SymbolBench bench, String when) {
        for (int what = 3; what <= 5; what++) {
            CHECK.due(when + ": count(" + what + ")", bench.count(what), -1);
        }
        for (int i : new int[] {-1, 0, 1, 39, 40, 41}) {
            for (int what = -1; what <= 6; what++) {
                CHECK.due(when + ": path(" + i + ", " + what + ")", bench.path(i, what), -1);
            }
            CHECK.due(when + ": decision(" + i + ", 0)", bench.decision(i, 0), -1);
            CHECK.due(when + ": holds(" + i + ", 0)", bench.holds(i, 0), -1);
            CHECK.due(when + ": value(" + i + ", 1)", bench.value(i, 1), 0);
            for (int what = 0; what <= 3; what++) {
                CHECK.due(when + ": find(" + i + ", " + what + ", 77)", bench.find(i, what, 77), -1);
            }
            for (int what = 0; what <= 2; what++) {
                CHECK.due(when + ": failure(" + i + ", " + what + ")", bench.failure(i, what), -1);
            }
            CHECK.due(when + ": covered(" + i + ")", bench.covered(i), -1);
        }
        CHECK.due(when + ": ran(5)", bench.ran(5), -1);
    }

    private static void noneIsKnownThen() {
        CHECK.sentence("Promise 5: NONE if there are too many (none is known then)");
        SymbolBench bench = branching(5, 9);
        CHECK.due("explore()", bench.explore(), -1);
        noneKnown(bench, "too many");
        CHECK.due("run(4095) all the same", bench.run(4095), 3);
        CHECK.due("its end", bench.ran(0), 3);
        noneKnown(bench, "too many, behind a run");
        CHECK.due("explore() again", bench.explore(), -1);
        SymbolBench grown = branching(5, 8);
        CHECK.due("40 paths", grown.explore(), 40);
        grown.run(4095);
        CHECK.due("a path is known", grown.ran(5) >= 0 ? 1 : 0, 1);
        Op.tell(grown, Op.i(Op.CONST, 4, 4000), Op.i(Op.SUB, 4, 0, 4), Op.i(Op.ASSERT, 4));
        CHECK.due("41 paths", grown.explore(), -1);
        noneKnown(grown, "grown");
        CHECK.due("clear()", grown.clear(), 3 + 15 + 24 + 3);
        CHECK.due("explore() of nothing", grown.explore(), 1);
        CHECK.due("one path is known", grown.count(3), 1);
    }

    private static void exploringAgain() {
        CHECK.sentence("Promise 5: All PATHS are found: how many");
        SymbolBench empty = new SymbolBench();
        CHECK.due("no program", empty.explore(), 1);
        CHECK.due("no program, again", empty.explore(), 1);
        SymbolBench bench = asserting(2, 3);
        for (int round = 0; round < 3; round++) {
            CHECK.due("explore()", bench.explore(), 4);
            CHECK.due("count(3)", bench.count(3), 4);
            CHECK.due("the last path", bench.path(3, 3), 0);
        }
        SymbolBench inputs = new SymbolBench();
        inputs.input(12, true);
        CHECK.due("inputs without a program", inputs.explore(), 1);
        CHECK.due("its least word", inputs.path(0, 3), 0);
        CHECK.due("its last word", inputs.holds(0, 4095), 1);
    }

    private static SymbolBench explored() {
        SymbolBench bench = asserting(3, 2);
        bench.explore();
        return bench;
    }

    private static void comingsForget() {
        CHECK.sentence("Terms: A program's or input's coming forget what explore() found");
        SymbolBench told = explored();
        CHECK.due("an instruction comes", told.tell(Op.HALT, 0, 0, 0), 6);
        noneKnown(told, "an instruction came");
        CHECK.due("explore()", told.explore(), 3);
        CHECK.due("the place where it ends now", told.path(0, 1), 6);
        SymbolBench given = explored();
        CHECK.due("an input comes", given.input(1, false), 1);
        noneKnown(given, "an input came");
        CHECK.due("explore()", given.explore(), 3);
        CHECK.due("the least word now", given.path(1, 3), 2);
        CHECK.due("words now", given.holds(0, 15), 1);
    }

    /** Behind four paths, three of them failing, come programs with fewer of both. */
    private static void nothingOldStays() {
        CHECK.sentence("Terms: forget what explore() found (nothing of it is found again)");
        SymbolBench bench = asserting(4, 3);
        CHECK.due("explore()", bench.explore(), 4);
        CHECK.due("failures", bench.count(4), 3);
        bench.clear();
        Op.tell(bench, Op.i(Op.JUMP, 8));
        Edge.fill(bench, 8);
        CHECK.due("explore() of a JUMP over all", bench.explore(), 1);
        CHECK.due("failures now", bench.count(4), 0);
        CHECK.due("covered now", bench.count(5), 1);
        for (int place = 0; place < 8; place++) {
            CHECK.due("covered(" + place + ") now", bench.covered(place), place == 0 ? 1 : 0);
        }
        for (int what = 0; what < 3; what++) {
            CHECK.due("failure(0, " + what + ") now", bench.failure(0, what), -1);
        }
        bench.clear();
        Op.tell(bench, Op.i(Op.CONST, 1, 1), Op.i(Op.JUMP, 4), Op.i(Op.FAIL, 1), Op.i(Op.FAIL, 2), Op.i(Op.ASSERT, 0));
        bench.input(4, false);
        CHECK.due("explore() of an ASSERT that fails for all", bench.explore(), 1);
        CHECK.due("its least word", bench.failure(0, 2), 0);
        CHECK.due("its place", bench.failure(0, 1), 4);
        CHECK.due("no second failure", bench.failure(1, 0), -1);
        CHECK.due("covered now", bench.count(5), 3);
        CHECK.due("no second path", bench.path(1, 0), -1);
    }

    /** Old paths failed where the new program fails too, and for lesser words than the new one has. */
    private static void oldFailuresAreNoMatter() {
        CHECK.sentence("Terms: forget what explore() found (nor does it tell a least word)");
        for (int place = 2; place <= 6; place += 2) {
            SymbolBench bench = asserting(4, 3);
            CHECK.due("explore()", bench.explore(), 4);
            CHECK.due("one fails at " + place, bench.failure(place / 2 - 1, 1), place);
            bench.clear();
            bench.input(4, false);
            bench.tell(Op.INPUT, 0, 0, 0);
            Edge.fill(bench, place);
            bench.tell(Op.LOAD, 1, 0, 0);
            CHECK.due("explore()", bench.explore(), 2);
            CHECK.due("the end now", bench.failure(0, 0), 2);
            CHECK.due("the place now", bench.failure(0, 1), place);
            CHECK.due("the least word now", bench.failure(0, 2), 8);
            CHECK.due("no second failure", bench.failure(1, 0), -1);
        }
    }

    private static void clearForgets() {
        CHECK.sentence("Terms: and clear(), forget what explore() found");
        SymbolBench bench = explored();
        CHECK.due("clear()", bench.clear(), 6);
        noneKnown(bench, "cleared");
        SymbolBench empty = new SymbolBench();
        empty.explore();
        CHECK.due("clear() of nothing", empty.clear(), 0);
        noneKnown(empty, "cleared, though nothing was there");
    }

    private static void nothingIsKnownAtFirst() {
        CHECK.sentence("Promise 6: NONE for all if there is no such PATH (ahead of explore())");
        noneKnown(new SymbolBench(), "new");
        SymbolBench bench = asserting(3, 2);
        noneKnown(bench, "not explored");
        bench.run(0);
        noneKnown(bench, "run, not explored");
    }

    // Promise 6

    private static void pathNumbers() {
        CHECK.sentence("Promise 6: NONE for all if there is no such PATH");
        for (int failing = 0; failing <= 28; failing += 7) {
            SymbolBench bench = asserting(5, failing);
            int paths = bench.explore();
            CHECK.due("explore()", paths, failing + 1);
            for (int what = -1; what <= 6; what++) {
                CHECK.isTrue("the first path has " + what, bench.path(0, what) >= 0);
                CHECK.isTrue("the last path has " + what, bench.path(paths - 1, what) >= 0);
                for (int i : new int[] {LEAST, -1, paths, paths + 1, 64, MOST}) {
                    CHECK.due("path(" + i + ", " + what + ")", bench.path(i, what), -1);
                }
            }
        }
        SymbolBench forty = branching(5, 8);
        forty.explore();
        CHECK.due("path(39, 0)", forty.path(39, 0), 0);
        CHECK.due("path(40, 0)", forty.path(40, 0), -1);
    }

    private static void pathEndsAndPlaces() {
        CHECK.sentence("Promise 6: 1: the place of the instruction that ended it (how many there are, if none did)");
        int[][] enders = {{Op.HALT, 0, 0, 0}, {Op.UDIV, 0, 0, 0}, {Op.LOAD, 0, 1, 0}, {Op.ASSERT, 0, 0, 0}, {Op.FAIL, 3, 0, 0}};
        for (int place : new int[] {1, 2, 30, 58, 59}) {
            for (int k = 0; k < enders.length; k++) {
                SymbolBench bench = Op.bench(0, Op.i(Op.CONST, 1, -1));
                Edge.fill(bench, place);
                bench.tell(enders[k][0], enders[k][1], enders[k][2], enders[k][3]);
                Edge.fill(bench, 60);
                CHECK.due("explore()", bench.explore(), 1);
                CHECK.due("end " + k, bench.path(0, 0), k);
                CHECK.due("end " + k + " at", bench.path(0, 1), place);
            }
        }
        SymbolBench first = Op.bench(0, Op.i(Op.HALT, 0), Op.i(Op.FAIL, 0));
        first.explore();
        CHECK.due("HALT at 0", first.path(0, 1), 0);
        for (int size : new int[] {0, 1, 59, 60}) {
            SymbolBench bench = Edge.idle(size);
            bench.explore();
            CHECK.due("none did, of " + size, bench.path(0, 1), size);
            CHECK.due("its end", bench.path(0, 0), 0);
        }
    }

    private static void pathDecisions() {
        CHECK.sentence("Promise 6: 2: how many DECISIONS");
        for (int decisions = 0; decisions <= 60; decisions++) {
            SymbolBench bench = new SymbolBench();
            for (int k = 0; k < decisions; k++) {
                bench.tell(Op.IF, 0, k + 1, 0);
            }
            Edge.fill(bench, 60);
            bench.explore();
            CHECK.due(decisions + " decisions", bench.path(0, 2), decisions);
            bench.run(0);
            CHECK.due(decisions + " decisions of the run", bench.ran(4), decisions);
            CHECK.due("the last", bench.decision(0, decisions - 1), decisions == 0 ? -1 : 2 * decisions - 2);
            CHECK.due("one more", bench.decision(0, decisions), -1);
        }
    }

    /** Words from a limit on go one path, those below it the other; RESULT is the word. */
    private static SymbolBench parted(int bits, int limit) {
        return Op.bench(bits, Op.i(Op.INPUT, 0, 0), Op.i(Op.CONST, 1, limit), Op.i(Op.ULT, 2, 0, 1), Op.i(Op.IF, 2, 5),
            Op.i(Op.HALT, 0), Op.i(Op.HALT, 0));
    }

    private static void pathLeastWord() {
        CHECK.sentence("Promise 6: 3: its least INPUT WORD, 4: RESULT there");
        for (int bits : new int[] {1, 2, 11, 12}) {
            int highest = (1 << bits) - 1;
            for (int limit : new int[] {1, (highest + 1) / 2, highest}) {
                SymbolBench bench = parted(bits, limit);
                CHECK.due("explore()", bench.explore(), 2);
                CHECK.due("least word below " + limit, bench.path(0, 3), 0);
                CHECK.due("RESULT there", bench.path(0, 4), 0);
                CHECK.due("least word from " + limit, bench.path(1, 3), limit);
                CHECK.due("RESULT there", bench.path(1, 4), limit);
            }
        }
    }

    private static void pathSameResult() {
        CHECK.sentence("Promise 6: 5: 1 if RESULT is the same for all its inputs, else 0");
        for (int bits : new int[] {1, 12}) {
            int highest = (1 << bits) - 1;
            for (int odd : new int[] {-1, 0, highest / 2, highest, highest + 1}) {
                SymbolBench bench = Op.bench(bits, Op.i(Op.INPUT, 0, 0), Op.i(Op.CONST, 1, odd), Op.i(Op.EQ, 2, 0, 1),
                    Op.i(Op.HALT, 2));
                bench.explore();
                CHECK.due("RESULT is unlike at " + odd, bench.path(0, 5), odd >= 0 && odd <= highest ? 0 : 1);
            }
        }
        SymbolBench single = parted(12, 1);
        single.explore();
        CHECK.due("a path of one word", single.path(0, 5), 1);
        CHECK.due("a path of 4095", single.path(1, 5), 0);
        SymbolBench two = parted(12, 4094);
        two.explore();
        CHECK.due("a path of two words", two.path(1, 5), 0);
        SymbolBench none = new SymbolBench();
        none.explore();
        CHECK.due("without inputs", none.path(0, 5), 1);
        SymbolBench apart = Op.bench(1, Op.i(Op.INPUT, 0, 0), Op.i(Op.IF, 0, 3), Op.i(Op.FAIL, 1), Op.i(Op.FAIL, 2));
        apart.explore();
        CHECK.due("another path's RESULT is no matter", apart.path(0, 5) + apart.path(1, 5), 2);
    }

    private static void pathAnotherWhat() {
        CHECK.sentence("Promise 6: 0 for another what");
        SymbolBench bench = Op.bench(1, Op.i(Op.INPUT, 0, 0), Op.i(Op.IF, 0, 3), Op.i(Op.FAIL, 9), Op.i(Op.FAIL, 8));
        bench.explore();
        for (int i = 0; i < 2; i++) {
            int[] want = {4, i == 0 ? 3 : 2, 1, 1 - i, i == 0 ? 8 : 9, 1};
            for (int what = 0; what < 6; what++) {
                CHECK.due("path(" + i + ", " + what + ")", bench.path(i, what), want[what]);
            }
            for (int what : new int[] {LEAST, -2, -1, 6, 7, 8, 256, MOST}) {
                CHECK.due("path(" + i + ", " + what + ")", bench.path(i, what), 0);
            }
        }
    }

    // Promises 7 and 8

    private static void decisionNumbers() {
        CHECK.sentence("Promise 7: twice its instruction's place, and 1 more if it was 1. NONE.");
        for (int decisions : new int[] {0, 1, 2, 58, 59}) {
            SymbolBench bench = Op.bench(0, Op.i(Op.CONST, 1, 1));
            for (int k = 0; k < decisions; k++) {
                bench.tell(Op.IF, k % 3 == 0 ? 1 : 0, k + 2, 0);
            }
            bench.explore();
            for (int j = 0; j < decisions; j++) {
                CHECK.due("decision(0, " + j + ")", bench.decision(0, j), 2 * (j + 1) + (j % 3 == 0 ? 1 : 0));
            }
            for (int j : new int[] {LEAST, -2, -1, decisions, decisions + 1, 60, 64, MOST}) {
                CHECK.due("decision(0, " + j + ") of " + decisions, bench.decision(0, j), -1);
            }
            for (int i : new int[] {LEAST, -1, 1, 40, MOST}) {
                CHECK.due("decision(" + i + ", 0)", bench.decision(i, 0), -1);
            }
        }
        SymbolBench first = Op.bench(0, Op.i(Op.IF, 0, 1), Op.i(Op.NOT, 0, 0), Op.i(Op.JUMP, 4), Op.i(Op.IF, 0, 4),
            Op.i(Op.IF, 0, 60));
        first.explore();
        CHECK.due("at place 0", first.decision(0, 0), 0);
        CHECK.due("the one that is jumped over is none", first.decision(0, 1), 9);
        CHECK.due("no third", first.decision(0, 2), -1);
    }

    private static void holdsOfWords() {
        CHECK.sentence("Promise 8: NONE if there is no such PATH, or it is none (below 0, or has more bits)");
        for (int bits = 0; bits <= 12; bits++) {
            SymbolBench bench = Op.bench(bits, Op.i(Op.CONST, 0, 1), Op.i(Op.HALT, 0));
            bench.explore();
            for (int word : Edge.wordsAround(bits)) {
                CHECK.due("holds(0, " + word + ") of " + bits, bench.holds(0, word), Edge.isWord(word, bits) ? 1 : -1);
                for (int i : new int[] {LEAST, -1, 1, 2, 40, MOST}) {
                    CHECK.due("holds(" + i + ", " + word + ")", bench.holds(i, word), -1);
                }
            }
        }
    }

    private static void holdsOfOnePathOnly() {
        CHECK.sentence("Promise 8: Whether an INPUT WORD is of PATH i: 1, 0");
        for (int limit : new int[] {1, 2, 2048, 4094, 4095}) {
            SymbolBench bench = parted(12, limit);
            bench.explore();
            for (int word : new int[] {0, 1, limit - 1, limit, Math.min(limit + 1, 4095), 4094, 4095}) {
                CHECK.due("below " + limit + ": " + word, bench.holds(0, word), word < limit ? 1 : 0);
                CHECK.due("from " + limit + ": " + word, bench.holds(1, word), word < limit ? 0 : 1);
            }
        }
    }

    // Promise 9

    private static void valueOfWords() {
        CHECK.sentence("Promise 9: 0 if there are none such");
        for (int bits = 0; bits <= 12; bits++) {
            SymbolBench bench = Op.bench(bits, Op.i(Op.CONST, 0, -9), Op.i(Op.HALT, 0));
            bench.explore();
            for (int word : Edge.wordsAround(bits)) {
                CHECK.due("value(0, " + word + ") of " + bits, bench.value(0, word), Edge.isWord(word, bits) ? -9 : 0);
                for (int i : new int[] {LEAST, -1, 1, 2, 40, MOST}) {
                    CHECK.due("value(" + i + ", " + word + ")", bench.value(i, word), 0);
                }
            }
        }
    }

    private static void valueByZero() {
        CHECK.sentence("Promise 9: UDIV, SDIV by 0 give all bits 1, UREM, SREM the rs");
        for (int number = Op.UDIV; number <= Op.SREM; number++) {
            boolean givesRest = number == Op.UREM || number == Op.SREM;
            for (int x : Edge.VALUES) {
                for (int target = 1; target <= 3; target++) {
                    SymbolBench bench = Op.bench(1, Op.i(Op.INPUT, 2, 0), Op.i(Op.CONST, 1, x),
                        Op.i(number, target, 1, 2), Op.i(Op.HALT, target));
                    CHECK.due("explore()", bench.explore(), 2);
                    CHECK.due(number + " of " + x + " by 0", bench.value(0, 0), givesRest ? x : -1);
                    CHECK.due(number + " of " + x + " by 1", bench.value(0, 1), givesRest ? 0 : x);
                    CHECK.due(number + " of " + x + " by 0 where it ends", bench.value(1, 0), 0);
                    CHECK.due(number + " of " + x + " by 1 where it ends", bench.value(1, 1), 0);
                }
            }
        }
        SymbolBench rest = Op.bench(2, Op.i(Op.INPUT, 2, 0), Op.i(Op.UREM, 3, 2, 2), Op.i(Op.HALT, 3));
        rest.explore();
        CHECK.due("0 by 0: the rest", rest.value(0, 0), 0);
    }

    /** Cell k holds 100 + k, register 5 is a cell's number for word 0, and none for word 1. */
    private static SymbolBench withCells(int cell, int noCell) {
        SymbolBench bench = new SymbolBench();
        bench.input(1, false);
        for (int k = 0; k < 8; k++) {
            Op.tell(bench, Op.i(Op.CONST, 1, k), Op.i(Op.CONST, 2, 100 + k), Op.i(Op.STORE, 1, 2));
        }
        Op.tell(bench, Op.i(Op.INPUT, 3, 0), Op.i(Op.CONST, 4, noCell), Op.i(Op.CONST, 5, cell), Op.i(Op.SELECT, 5, 3, 4));
        return bench;
    }

    private static void valueOfLoads() {
        CHECK.sentence("Promise 9: LOAD of a number that is not below 8 gives 0");
        for (int noCell : NO_CELLS) {
            for (int cell = 0; cell < 8; cell++) {
                SymbolBench bench = withCells(cell, noCell);
                Op.tell(bench, Op.i(Op.CONST, 6, 66), Op.i(Op.LOAD, 6, 5), Op.i(Op.HALT, 6));
                CHECK.due("explore()", bench.explore(), 2);
                CHECK.due("LOAD of " + cell, bench.value(0, 0), 100 + cell);
                CHECK.due("LOAD of " + noCell, bench.value(0, 1), 0);
                CHECK.due("LOAD of " + cell + " where it ends", bench.value(1, 0), 0);
                CHECK.due("LOAD of " + noCell + " where it ends", bench.value(1, 1), 0);
            }
        }
    }

    private static void valueOfStores() {
        CHECK.sentence("Promise 9: STORE there does nothing");
        for (int noCell : NO_CELLS) {
            for (int asked = 0; asked < 8; asked++) {
                SymbolBench bench = withCells(7 - asked, noCell);
                Op.tell(bench, Op.i(Op.CONST, 6, 66), Op.i(Op.CONST, 7, asked), Op.i(Op.STORE, 5, 6), Op.i(Op.LOAD, 9, 7),
                    Op.i(Op.HALT, 9));
                CHECK.due("explore()", bench.explore(), 2);
                CHECK.due("cell " + asked + " behind STORE at another", bench.value(0, 0), 100 + asked);
                CHECK.due("cell " + asked + " behind STORE at " + noCell, bench.value(0, 1), 100 + asked);
                CHECK.due("STORE at " + noCell + " where it ends", bench.value(1, 1), 0);
                SymbolBench same = withCells(asked, noCell);
                Op.tell(same, Op.i(Op.CONST, 6, 66), Op.i(Op.CONST, 7, asked), Op.i(Op.STORE, 5, 6), Op.i(Op.LOAD, 9, 7),
                    Op.i(Op.HALT, 9));
                same.explore();
                CHECK.due("cell " + asked + " behind STORE there", same.value(0, 0), 66);
                CHECK.due("cell " + asked + ", though STORE comes there else", same.value(0, 1), 100 + asked);
            }
        }
    }

    private static void valueKeepsToDecisions() {
        CHECK.sentence("Promise 9: RESULT along the DECISIONS of PATH i for any INPUT WORD, of it or not");
        SymbolBench ifs = parted(12, 2048);
        ifs.explore();
        for (int word : new int[] {0, 1, 2047, 2048, 4095}) {
            CHECK.due("the one way for " + word, ifs.value(0, word), word);
            CHECK.due("the other way for " + word, ifs.value(1, word), word);
        }
        SymbolBench asserts = asserting(2, 3);
        asserts.tell(Op.HALT, 0, 0, 0);
        asserts.explore();
        for (int word = 0; word < 4; word++) {
            CHECK.due("past all ASSERTs for " + word, asserts.value(0, word), word - 3);
            for (int i = 1; i < 4; i++) {
                CHECK.due("at an ASSERT that fails for " + word, asserts.value(i, word), 0);
            }
        }
        SymbolBench fails = Op.bench(1, Op.i(Op.INPUT, 0, 0), Op.i(Op.IF, 0, 4), Op.i(Op.FAIL, 255), Op.i(Op.HALT, 0),
            Op.i(Op.NOT, 0, 0));
        fails.explore();
        CHECK.due("FAIL for a word of it", fails.value(1, 0), 255);
        CHECK.due("FAIL for another", fails.value(1, 1), 255);
        CHECK.due("behind the last for a word of it", fails.value(0, 1), 0);
        CHECK.due("behind the last for another", fails.value(0, 0), 0);
    }

    // Promise 10

    private static boolean isWanted(int what, int result, int v) {
        switch (what) {
            case 0: return Edge.unsigned(result) == Edge.unsigned(v);
            case 1: return Edge.unsigned(result) != Edge.unsigned(v);
            case 2: return Edge.unsigned(result) < Edge.unsigned(v);
            default: return (long) result < (long) v;
        }
    }

    private static void findOfEachRelation() {
        CHECK.sentence("Promise 10: what 0: v, 1: not v, 2: below v without sign, 3: below v with sign");
        for (int result : Edge.VALUES) {
            SymbolBench bench = Op.bench(2, Op.i(Op.CONST, 0, result), Op.i(Op.HALT, 0));
            bench.explore();
            for (int what = 0; what < 4; what++) {
                for (int v : Edge.VALUES) {
                    CHECK.due("find(0, " + what + ", " + v + "), RESULT is " + result, bench.find(0, what, v),
                        isWanted(what, result, v) ? 0 : -1);
                }
            }
        }
    }

    private static void findTheLeast() {
        CHECK.sentence("Promise 10: The least INPUT WORD of PATH i");
        SymbolBench bench = parted(12, 2048);
        bench.explore();
        int[][] cases = {{0, 0, 0, 0}, {0, 0, 2047, 2047}, {0, 0, 2048, -1}, {1, 0, 2047, -1}, {1, 0, 2048, 2048},
            {1, 0, 4095, 4095}, {1, 0, 4096, -1}, {0, 1, 0, 1}, {0, 1, 1, 0}, {1, 1, 2048, 2049}, {1, 1, 0, 2048},
            {0, 2, 0, -1}, {0, 2, 1, 0}, {1, 2, 2048, -1}, {1, 2, 2049, 2048}, {1, 2, -1, 2048}, {0, 3, 0, -1},
            {0, 3, 1, 0}, {1, 3, 2048, -1}, {1, 3, 2049, 2048}, {1, 3, -1, -1}};
        for (int[] one : cases) {
            CHECK.due("find(" + one[0] + ", " + one[1] + ", " + one[2] + ")", bench.find(one[0], one[1], one[2]), one[3]);
        }
        SymbolBench falling = Op.bench(12, Op.i(Op.INPUT, 0, 0), Op.i(Op.NOT, 0, 0), Op.i(Op.HALT, 0));
        falling.explore();
        CHECK.due("the last word alone is below", falling.find(0, 3, -4095), 4095);
        CHECK.due("none is below", falling.find(0, 3, -4096), -1);
        CHECK.due("the last word alone is below, without sign", falling.find(0, 2, -4095), 4095);
        CHECK.due("the last two are below", falling.find(0, 3, -4094), 4094);
        SymbolBench constant = Op.bench(12, Op.i(Op.INPUT, 0, 0), Op.i(Op.CONST, 1, 4095), Op.i(Op.EQ, 2, 0, 1),
            Op.i(Op.HALT, 2));
        constant.explore();
        CHECK.due("all but the last are 0: not 0", constant.find(0, 1, 0), 4095);
        CHECK.due("all but the last are 0: 0", constant.find(0, 0, 0), 0);
    }

    private static void findNone() {
        CHECK.sentence("Promise 10: NONE if there is none, no such PATH, or for another what");
        SymbolBench bench = parted(3, 4);
        bench.explore();
        for (int what : new int[] {LEAST, -2, -1, 4, 5, 6, 256, MOST}) {
            for (int v : new int[] {LEAST, -1, 0, 1, 7, MOST}) {
                CHECK.due("find(0, " + what + ", " + v + ")", bench.find(0, what, v), -1);
            }
        }
        for (int i : new int[] {LEAST, -1, 2, 3, 40, MOST}) {
            for (int what = 0; what < 4; what++) {
                for (int v : new int[] {-1, 0, 5}) {
                    CHECK.due("find(" + i + ", " + what + ", " + v + ")", bench.find(i, what, v), -1);
                }
            }
        }
        CHECK.due("none is 8", bench.find(1, 0, 8), -1);
        CHECK.due("one is 7", bench.find(1, 0, 7), 7);
        SymbolBench constant = Op.bench(3, Op.i(Op.FAIL, 6));
        constant.explore();
        CHECK.due("none is not 6", constant.find(0, 1, 6), -1);
        CHECK.due("none is below 6", constant.find(0, 2, 6), -1);
        CHECK.due("one is below 7", constant.find(0, 2, 7), 0);
    }
}
