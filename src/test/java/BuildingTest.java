/** Promises 1 to 4: a new object, input, tell, clear; and what count() says of them (17). */
public final class BuildingTest {
    private static final Check CHECK = new Check();

    public static void main(String[] args) {
        newObjectIsEmpty();
        inputsAreNumbered();
        inputsAreRefused();
        instructionsArePlaced();
        operandsAreChecked();
        targetsLieAhead();
        inputsMustBeThere();
        sixtyInstructions();
        sixMultiplications();
        sixDivisionsOfAllKinds();
        clearForgetsAll();
        clearFreesTheLimits();
        refusalsForgetNothing();
        comingsForgetPaths();
        CHECK.finish();
    }

    private static void newObjectIsEmpty() {
        SymbolBench bench = new SymbolBench();
        CHECK.due("NONE", SymbolBench.NONE, -1);
        counts(bench, "new", 0, 0, 0);
        for (int what = 3; what <= 5; what++) {
            CHECK.due("new: count(" + what + ")", bench.count(what), -1);
        }
        for (int what : new int[] {-1, 6, 7, Integer.MIN_VALUE, Integer.MAX_VALUE}) {
            CHECK.due("new: count(" + what + ")", bench.count(what), -1);
        }
        for (int what = -1; what <= 6; what++) {
            CHECK.due("new: ran(" + what + ")", bench.ran(what), -1);
            CHECK.due("new: path(0, " + what + ")", bench.path(0, what), -1);
        }
        CHECK.due("new: clear()", bench.clear(), 0);
        CHECK.due("new: holds", bench.holds(0, 0), -1);
        CHECK.due("new: value", bench.value(0, 0), 0);
        CHECK.due("new: find", bench.find(0, 0, 0), -1);
        CHECK.due("new: failure", bench.failure(0, 0), -1);
        CHECK.due("new: covered", bench.covered(0), -1);
        CHECK.due("new: decision", bench.decision(0, 0), -1);
    }

    private static void inputsAreNumbered() {
        SymbolBench bench = new SymbolBench();
        for (int k = 0; k < 4; k++) {
            CHECK.due("input " + k, bench.input(3, k % 2 == 0), k);
            counts(bench, "inputs", k + 1, 3 * (k + 1), 0);
        }
        CHECK.due("a fifth input", bench.input(1, false), -1);
        counts(bench, "four inputs", 4, 12, 0);
        CHECK.due("an input of all bits", new SymbolBench().input(12, true), 0);
    }

    private static void inputsAreRefused() {
        SymbolBench bench = new SymbolBench();
        for (int bits : new int[] {0, -1, 13, Integer.MIN_VALUE, Integer.MAX_VALUE}) {
            CHECK.due("input of " + bits, bench.input(bits, true), -1);
        }
        counts(bench, "refused", 0, 0, 0);
        CHECK.due("input of 11", bench.input(11, true), 0);
        CHECK.due("two bits more", bench.input(2, false), -1);
        CHECK.due("as many as can be", bench.input(Integer.MAX_VALUE, false), -1);
        counts(bench, "eleven", 1, 11, 0);
        CHECK.due("the twelfth bit", bench.input(1, false), 1);
        CHECK.due("a thirteenth", bench.input(1, false), -1);
        SymbolBench four = new SymbolBench();
        for (int k = 0; k < 4; k++) {
            four.input(1, false);
        }
        CHECK.due("a fifth with bits left", four.input(1, false), -1);
        counts(four, "four of one bit", 4, 4, 0);
    }

    private static void instructionsArePlaced() {
        SymbolBench bench = new SymbolBench();
        bench.input(2, false);
        for (int number = 0; number <= 31; number++) {
            boolean jumps = number == Op.JUMP;
            int second = number == Op.INPUT ? 0 : number == Op.IF ? 60 : 5;
            CHECK.due("tell " + number, bench.tell(number, jumps ? 60 : 15, second, 0), number);
        }
        counts(bench, "one of each", 1, 2, 32);
        for (int number : new int[] {-1, 32, 33, 255, Integer.MIN_VALUE, Integer.MAX_VALUE}) {
            CHECK.due("tell " + number, bench.tell(number, 0, 0, 0), -1);
        }
        counts(bench, "no such instruction", 1, 2, 32);
    }

    /** For each instruction: what its words may be ('r' register, 'i' input, 't' target, 'k' FAIL's, '.' anything). */
    private static String form(int number) {
        switch (number) {
            case Op.CONST: case Op.ASSERT: case Op.HALT: return "r..";
            case Op.INPUT: return "ri.";
            case Op.COPY: case Op.NOT: case Op.NEG: case Op.LOAD: case Op.STORE: return "rr.";
            case Op.IF: return "rt.";
            case Op.JUMP: return "t..";
            case Op.FAIL: return "k..";
            default: return "rrr";
        }
    }

    private static boolean isRight(char kind, int word) {
        switch (kind) {
            case 'r': return word >= 0 && word <= 15;
            case 'i': return word == 0 || word == 1;
            case 't': return word >= 3 && word <= 60;
            case 'k': return word >= 0 && word <= 255;
            default: return true;
        }
    }

    private static void operandsAreChecked() {
        int[] words = {Integer.MIN_VALUE, -1, 0, 1, 2, 3, 4, 7, 8, 15, 16, 17, 59, 60, 61, 255, 256, Integer.MAX_VALUE};
        for (int number = 0; number <= 31; number++) {
            for (int position = 0; position < 3; position++) {
                for (int word : words) {
                    oneOperand(number, position, word);
                }
            }
        }
    }

    private static void oneOperand(int number, int position, int word) {
        SymbolBench bench = new SymbolBench();
        bench.input(1, false);
        bench.input(1, false);
        Op.tell(bench, Op.i(Op.CONST, 0, 0), Op.i(Op.CONST, 0, 0));
        String form = form(number);
        int[] told = new int[3];
        for (int k = 0; k < 3; k++) {
            told[k] = form.charAt(k) == 't' ? 60 : 0;
        }
        told[position] = word;
        int want = isRight(form.charAt(position), word) ? 2 : -1;
        String call = "tell(" + number + ", " + told[0] + ", " + told[1] + ", " + told[2] + ")";
        CHECK.due(call, bench.tell(number, told[0], told[1], told[2]), want);
        counts(bench, call, 2, 2, want == -1 ? 2 : 3);
    }

    private static void targetsLieAhead() {
        SymbolBench bench = new SymbolBench();
        for (int place = 0; place < 60; place++) {
            for (int target : new int[] {place - 1, place, 61}) {
                CHECK.due("IF to " + target, bench.tell(Op.IF, 0, target, 0), -1);
                CHECK.due("JUMP to " + target, bench.tell(Op.JUMP, target, 0, 0), -1);
            }
            int target = place % 3 == 0 ? 60 : place + 1;
            CHECK.due("IF or JUMP to " + target, place % 2 == 0
                ? bench.tell(Op.IF, 0, target, 0) : bench.tell(Op.JUMP, target, 0, 0), place);
        }
    }

    private static void inputsMustBeThere() {
        SymbolBench bench = new SymbolBench();
        CHECK.due("INPUT 0 without one", bench.tell(Op.INPUT, 0, 0, 0), -1);
        for (int k = 0; k < 4; k++) {
            bench.input(1, false);
            CHECK.due("INPUT " + k, bench.tell(Op.INPUT, 0, k, 0), k);
            CHECK.due("INPUT " + (k + 1), bench.tell(Op.INPUT, 0, k + 1, 0), -1);
            CHECK.due("INPUT -1", bench.tell(Op.INPUT, 0, -1, 0), -1);
        }
        bench.clear();
        CHECK.due("INPUT 0 behind clear()", bench.tell(Op.INPUT, 0, 0, 0), -1);
    }

    private static void sixtyInstructions() {
        SymbolBench bench = new SymbolBench();
        for (int place = 0; place < 60; place++) {
            CHECK.due("the instruction at " + place, bench.tell(Op.NOT, 0, 0, 0), place);
        }
        CHECK.due("a 61st", bench.tell(Op.NOT, 0, 0, 0), -1);
        CHECK.due("a 61st JUMP", bench.tell(Op.JUMP, 61, 0, 0), -1);
        counts(bench, "full", 0, 0, 60);
        CHECK.due("clear()", bench.clear(), 60);
    }

    private static void sixMultiplications() {
        SymbolBench bench = new SymbolBench();
        for (int place = 0; place < 6; place++) {
            CHECK.due("MUL " + place, bench.tell(Op.MUL, 0, 0, 0), place);
        }
        CHECK.due("a seventh MUL", bench.tell(Op.MUL, 0, 0, 0), -1);
        CHECK.due("ADD", bench.tell(Op.ADD, 0, 0, 0), 6);
        CHECK.due("UDIV", bench.tell(Op.UDIV, 0, 0, 0), 7);
    }

    private static void sixDivisionsOfAllKinds() {
        SymbolBench bench = new SymbolBench();
        CHECK.due("a wrong UDIV does not count", bench.tell(Op.UDIV, 16, 0, 0), -1);
        for (int place = 0; place < 6; place++) {
            CHECK.due("division " + place, bench.tell(Op.UDIV + place % 4, 0, 0, 0), place);
        }
        for (int number = Op.UDIV; number <= Op.SREM; number++) {
            CHECK.due("a seventh division", bench.tell(number, 0, 0, 0), -1);
        }
        CHECK.due("MUL", bench.tell(Op.MUL, 0, 0, 0), 6);
        CHECK.due("EQ", bench.tell(Op.EQ, 0, 0, 0), 7);
        CHECK.due("SAR", bench.tell(Op.SAR, 0, 0, 0), 8);
    }

    private static void clearForgetsAll() {
        SymbolBench bench = Op.bench(4, Op.i(Op.INPUT, 3, 0), Op.i(Op.STORE, 3, 3), Op.i(Op.HALT, 3));
        bench.explore();
        bench.run(5);
        CHECK.due("register ahead of clear()", bench.register(3), 5);
        CHECK.due("cell ahead of clear()", bench.cell(5), 5);
        CHECK.due("clear()", bench.clear(), 3);
        CHECK.due("a second clear()", bench.clear(), 0);
        counts(bench, "cleared", 0, 0, 0);
        for (int what = 3; what <= 5; what++) {
            CHECK.due("cleared: count(" + what + ")", bench.count(what), -1);
        }
        for (int what = 0; what <= 5; what++) {
            CHECK.due("cleared: ran(" + what + ")", bench.ran(what), -1);
        }
        CHECK.due("cleared: register", bench.register(3), 0);
        CHECK.due("cleared: cell", bench.cell(5), 0);
        CHECK.due("cleared: path", bench.path(0, 0), -1);
        CHECK.due("cleared: run of a gone input", bench.run(1), -1);
        CHECK.due("cleared: ran behind a refused run", bench.ran(0), -1);
        CHECK.due("cleared: run", bench.run(0), 0);
        CHECK.due("cleared: done", bench.ran(3), 0);
    }

    private static void clearFreesTheLimits() {
        SymbolBench bench = new SymbolBench();
        for (int round = 0; round < 3; round++) {
            for (int k = 0; k < 6; k++) {
                CHECK.due("MUL", bench.tell(Op.MUL, 0, 0, 0), 2 * k);
                CHECK.due("SREM", bench.tell(Op.SREM, 0, 0, 0), 2 * k + 1);
            }
            CHECK.due("input", bench.input(12, true), 0);
            CHECK.due("clear()", bench.clear(), 12);
        }
    }

    private static void refusalsForgetNothing() {
        SymbolBench bench = Op.bench(3, Op.i(Op.INPUT, 0, 0), Op.i(Op.HALT, 0));
        bench.explore();
        bench.run(4);
        bench.input(0, false);
        bench.input(10, false);
        bench.tell(32, 0, 0, 0);
        bench.tell(Op.HALT, 16, 0, 0);
        CHECK.due("paths behind refusals", bench.count(3), 1);
        CHECK.due("path of the run behind refusals", bench.ran(5), 0);
    }

    private static void comingsForgetPaths() {
        SymbolBench bench = Op.bench(3, Op.i(Op.INPUT, 0, 0), Op.i(Op.HALT, 0));
        CHECK.due("explore()", bench.explore(), 1);
        bench.input(1, false);
        CHECK.due("paths behind an input", bench.count(3), -1);
        CHECK.due("path behind an input", bench.path(0, 0), -1);
        CHECK.due("covered behind an input", bench.covered(0), -1);
        CHECK.due("explore() again", bench.explore(), 1);
        bench.tell(Op.HALT, 0, 0, 0);
        CHECK.due("paths behind an instruction", bench.count(3), -1);
        CHECK.due("failures behind an instruction", bench.count(4), -1);
        CHECK.due("covered behind an instruction", bench.count(5), -1);
        CHECK.due("find behind an instruction", bench.find(0, 1, 77), -1);
        CHECK.due("holds behind an instruction", bench.holds(0, 0), -1);
        CHECK.due("value behind an instruction", bench.value(0, 3), 0);
    }

    private static void counts(SymbolBench bench, String when, int inputs, int bits, int instructions) {
        CHECK.due(when + ": count(0)", bench.count(0), inputs);
        CHECK.due(when + ": count(1)", bench.count(1), bits);
        CHECK.due(when + ": count(2)", bench.count(2), instructions);
    }
}
