/**
 * The boundaries of what a bench takes in, sentence by sentence: inputs, bits, words, instructions, registers, targets,
 * MULs, divisions (Terms, promises 1 to 4), and how long an object is used.
 */
public final class LimitsEdgesTest {
    private static final Check CHECK = new Check();

    public static void main(String[] args) {
        newObject();
        atMostFourInputs();
        oneToTwelveBits();
        twelveBitsTogether();
        withSignOrWithout();
        inputZeroIsHighest();
        laterInputsMoveTheWord();
        wordZeroWithoutInputs();
        atMostSixtyInstructions();
        noSuchInstruction();
        noRegister();
        noSuchInput();
        targets();
        failNumbers();
        whatIsNotThere();
        sixMultiplications();
        sixDivisions();
        limitsAreApart();
        refusedOnesDoNotCount();
        clearTellsHowMany();
        clearLeavesNothing();
        fiveHundredAndTwelveCalls();
        CHECK.finish();
    }

    private static void counts(SymbolBench bench, String when, int... want) {
        for (int what = 0; what < want.length; what++) {
            CHECK.due(when + ": count(" + what + ")", bench.count(what), want[what]);
        }
    }

    private static void newObject() {
        CHECK.sentence("Promise 1: No inputs, no program.");
        counts(new SymbolBench(), "new", 0, 0, 0, -1, -1, -1);
        CHECK.due("clear()", new SymbolBench().clear(), 0);
        CHECK.due("the first input", new SymbolBench().input(12, false), 0);
        CHECK.due("the first instruction", new SymbolBench().tell(Op.HALT, 0, 0, 0), 0);
        CHECK.due("INPUT 0", new SymbolBench().tell(Op.INPUT, 0, 0, 0), -1);
        CHECK.due("run(0)", new SymbolBench().run(0), 0);
        CHECK.due("run(1)", new SymbolBench().run(1), -1);
        SymbolBench other = Op.bench(3, Op.i(Op.INPUT, 0, 0));
        other.run(5);
        CHECK.due("a register, beside another object", new SymbolBench().register(0), 0);
        counts(new SymbolBench(), "beside another object", 0, 0, 0, -1, -1, -1);
    }

    private static void atMostFourInputs() {
        CHECK.sentence("Promise 2: NONE, and none comes, if there are 4");
        for (int bits = 1; bits <= 3; bits++) {
            SymbolBench bench = new SymbolBench();
            for (int k = 0; k < 4; k++) {
                CHECK.due("input " + k, bench.input(bits, k % 2 == 0), k);
                counts(bench, "input " + k, k + 1, bits * (k + 1), 0);
            }
            for (int more = -1; more <= 13; more++) {
                CHECK.due("a fifth of " + more + " bits", bench.input(more, more % 2 == 0), -1);
            }
            counts(bench, "four", 4, 4 * bits, 0);
            CHECK.due("INPUT 3", bench.tell(Op.INPUT, 0, 3, 0), 0);
            CHECK.due("INPUT 4", bench.tell(Op.INPUT, 0, 4, 0), -1);
        }
    }

    private static void oneToTwelveBits() {
        CHECK.sentence("Promise 2: or the bits are not 1 to 12");
        int[] wrong = {Edge.LEAST, Edge.LEAST + 1, -32, -12, -1, 0, 13, 14, 31, 32, 33, 44, 64, 257, 1 << 16, Edge.MOST};
        for (int sign = 0; sign < 2; sign++) {
            for (int bits : wrong) {
                SymbolBench bench = new SymbolBench();
                CHECK.due("input of " + bits, bench.input(bits, sign == 1), -1);
                counts(bench, "refused", 0, 0, 0);
            }
            for (int bits = 1; bits <= 12; bits++) {
                SymbolBench bench = new SymbolBench();
                CHECK.due("input of " + bits, bench.input(bits, sign == 1), 0);
                counts(bench, "taken", 1, bits, 0);
            }
        }
    }

    private static void twelveBitsTogether() {
        CHECK.sentence("Promise 2: or all together would be more than 12");
        for (int first = 1; first <= 12; first++) {
            for (int second = 1; second <= 12; second++) {
                allTogether(first, second);
            }
        }
        int[][] rows = {{4, 4, 4}, {4, 4, 5}, {10, 1, 1}, {10, 1, 2}, {1, 1, 10}, {1, 1, 11}, {3, 3, 3, 3}, {3, 3, 3, 2},
            {3, 3, 3, 4}, {1, 1, 1, 9}, {1, 1, 1, 10}, {9, 1, 1, 1}, {9, 1, 1, 2}, {12, Edge.MOST}, {12, Edge.LEAST},
            {11, Edge.MOST}, {1, Edge.MOST - 1}};
        for (int[] row : rows) {
            allTogether(row);
        }
        SymbolBench bench = new SymbolBench();
        bench.input(7, false);
        CHECK.due("6 behind 7", bench.input(6, false), -1);
        CHECK.due("5 behind a refused one", bench.input(5, false), 1);
        CHECK.due("1 behind all", bench.input(1, false), -1);
        counts(bench, "all", 2, 12, 0);
    }

    /** One input behind the other; only the last may be refused. */
    private static void allTogether(int... row) {
        SymbolBench bench = new SymbolBench();
        int sum = 0;
        for (int k = 0; k < row.length; k++) {
            boolean fits = row[k] >= 1 && row[k] <= 12 - sum;
            CHECK.due("input of " + row[k] + " behind " + sum + " bits", bench.input(row[k], false), fits ? k : -1);
            sum += fits ? row[k] : 0;
            CHECK.due("bits of all", bench.count(1), sum);
        }
        CHECK.due("the highest word", bench.run((1 << sum) - 1), 0);
        CHECK.due("a word of more bits", bench.run(1 << sum), -1);
    }

    private static void withSignOrWithout() {
        CHECK.sentence("Terms: without sign, or with one (two's complement)");
        for (int bits = 1; bits <= 12; bits++) {
            int half = 1 << (bits - 1);
            int[] words = {0, half - 1, half, 2 * half - 1};
            int[] plain = {0, half - 1, half, 2 * half - 1};
            int[] signed = {0, half - 1, -half, -1};
            for (int sign = 0; sign < 2; sign++) {
                SymbolBench bench = new SymbolBench();
                bench.input(bits, sign == 1);
                Op.tell(bench, Op.i(Op.INPUT, 7, 0), Op.i(Op.HALT, 7));
                bench.explore();
                for (int k = 0; k < words.length; k++) {
                    int want = sign == 1 ? signed[k] : plain[k];
                    String what = "INPUT of " + bits + " bits for " + words[k] + (sign == 1 ? ", signed" : "");
                    bench.run(words[k]);
                    CHECK.due(what, bench.register(7), want);
                    CHECK.due(what + ": value", bench.value(0, words[k]), want);
                    CHECK.due(what + ": find", bench.find(0, 0, want), words[k]);
                }
                CHECK.due("beyond the highest", bench.find(0, 0, sign == 1 ? half : 2 * half), -1);
                CHECK.due("beyond the lowest", bench.find(0, 0, sign == 1 ? -half - 1 : -1), -1);
            }
        }
    }

    /** Each input in turn has all bits 1, or its highest or lowest alone, and no other input sees them. */
    private static void inputZeroIsHighest() {
        CHECK.sentence("Terms: their bits one behind the other, INPUT 0 highest");
        int[][] layouts = {{12}, {1, 11}, {11, 1}, {6, 6}, {4, 4, 4}, {1, 2, 3}, {2, 3, 1, 6}, {3, 3, 3, 3}, {1, 1, 1, 1},
            {9, 1, 1, 1}};
        for (int[] layout : layouts) {
            for (int signs = 0; signs < 16; signs += 5) {
                oneLayout(layout, signs);
            }
        }
    }

    private static void oneLayout(int[] layout, int signs) {
        SymbolBench bench = new SymbolBench();
        int below = 0;
        for (int k = 0; k < layout.length; k++) {
            bench.input(layout[k], (signs >> k & 1) == 1);
            bench.tell(Op.INPUT, k, k, 0);
            below += layout[k];
        }
        for (int k = 0; k < layout.length; k++) {
            below -= layout[k];
            boolean isSigned = (signs >> k & 1) == 1;
            int all = (1 << layout[k]) - 1;
            int top = 1 << (layout[k] - 1);
            onlyInput(bench, k, all << below, isSigned ? -1 : all);
            onlyInput(bench, k, top << below, isSigned ? -top : top);
            // The lowest bit is the sign too if it is the only one.
            onlyInput(bench, k, 1 << below, layout[k] == 1 && isSigned ? -1 : 1);
        }
    }

    private static void onlyInput(SymbolBench bench, int k, int word, int want) {
        CHECK.due("run(" + word + ")", bench.run(word), 0);
        for (int other = 0; other < bench.count(0); other++) {
            CHECK.due("INPUT " + other + " in " + word, bench.register(other), other == k ? want : 0);
        }
    }

    private static void laterInputsMoveTheWord() {
        CHECK.sentence("Terms: their bits one behind the other, INPUT 0 highest (an input that comes behind its INSTRUCTION)");
        SymbolBench bench = new SymbolBench();
        int[] bits = {2, 1, 3, 6};
        int behind = 0;
        bench.input(2, false);
        bench.tell(Op.INPUT, 0, 0, 0);
        for (int k = 0; k < 4; k++) {
            if (k > 0) {
                CHECK.due("one input more", bench.input(bits[k], true), k);
                behind += bits[k];
            }
            for (int value = 0; value < 4; value++) {
                bench.run(value << behind);
                CHECK.due("INPUT 0 with " + behind + " bits behind it", bench.register(0), value);
                bench.run((value + 1 << behind) - 1);
                CHECK.due("INPUT 0 with all of the " + behind + " bits behind it", bench.register(0), value);
            }
        }
    }

    private static void wordZeroWithoutInputs() {
        CHECK.sentence("Terms: an INPUT WORD (0 without inputs)");
        SymbolBench bench = Op.bench(0, Op.i(Op.CONST, 0, 5), Op.i(Op.HALT, 0));
        bench.explore();
        for (int word : Edge.wordsAround(0)) {
            CHECK.due("run(" + word + ")", bench.run(word), word == 0 ? 0 : -1);
            CHECK.due("holds(0, " + word + ")", bench.holds(0, word), word == 0 ? 1 : -1);
            CHECK.due("value(0, " + word + ")", bench.value(0, word), word == 0 ? 5 : 0);
        }
        CHECK.due("path(0, 3)", bench.path(0, 3), 0);
        CHECK.due("find(0, 0, 5)", bench.find(0, 0, 5), 0);
    }

    private static void atMostSixtyInstructions() {
        CHECK.sentence("Promise 3: NONE, and none comes: 60 are there");
        SymbolBench bench = new SymbolBench();
        bench.input(1, false);
        for (int place = 0; place < 60; place++) {
            CHECK.due("the instruction at " + place, bench.tell(Op.NOT, 1, 1, 0), place);
            CHECK.due("how many", bench.count(2), place + 1);
        }
        for (int number = 0; number <= 31; number++) {
            int first = number == Op.JUMP ? 61 : 0;
            int second = number == Op.IF ? 61 : 0;
            CHECK.due("one more, " + number, bench.tell(number, first, second, 0), -1);
            CHECK.due("one more to 60, " + number, bench.tell(number, 60, 60, 0), -1);
        }
        counts(bench, "full", 1, 1, 60, -1, -1, -1);
        bench.run(0);
        CHECK.due("all are done", bench.ran(3), 60);
        CHECK.due("sixty times NOT", bench.register(1), 0);
        CHECK.due("clear()", bench.clear(), 60);
        CHECK.due("room again", bench.tell(Op.NOT, 0, 0, 0), 0);
    }

    private static void noSuchInstruction() {
        CHECK.sentence("Promise 3: there is no such instruction");
        for (int number : new int[] {Edge.LEAST, -32, -31, -2, -1, 32, 33, 63, 64, 256, 256 + 31, 1 << 16, Edge.MOST}) {
            SymbolBench bench = new SymbolBench();
            bench.input(1, false);
            for (int word : new int[] {0, 1, 60}) {
                CHECK.due("tell " + number, bench.tell(number, word, word, word), -1);
            }
            counts(bench, "none came", 1, 1, 0);
            CHECK.due("CONST, the lowest number", bench.tell(0, 0, 0, 0), 0);
            CHECK.due("HALT, the highest number", bench.tell(31, 0, 0, 0), 1);
        }
    }

    /** How many of an instruction's words are registers: always the first ones. */
    private static int registersOf(int number) {
        switch (number) {
            case Op.JUMP: case Op.FAIL: return 0;
            case Op.CONST: case Op.INPUT: case Op.IF: case Op.ASSERT: case Op.HALT: return 1;
            case Op.COPY: case Op.NOT: case Op.NEG: case Op.LOAD: case Op.STORE: return 2;
            default: return 3;
        }
    }

    private static void noRegister() {
        CHECK.sentence("Promise 3: one is no register");
        for (int number = 0; number <= 31; number++) {
            for (int position = 0; position < registersOf(number); position++) {
                for (int k : new int[] {Edge.LEAST, -16, -1, 0, 15, 16, 17, 31, 32, 60, 256, 1 << 16, Edge.MOST}) {
                    oneRegister(number, position, k);
                }
            }
        }
    }

    private static void oneRegister(int number, int position, int k) {
        SymbolBench bench = new SymbolBench();
        bench.input(1, false);
        int[] words = {0, number == Op.IF ? 1 : 0, 0};
        words[position] = k;
        boolean isRegister = k >= 0 && k <= 15;
        CHECK.due("tell(" + number + ", " + words[0] + ", " + words[1] + ", " + words[2] + ")",
            bench.tell(number, words[0], words[1], words[2]), isRegister ? 0 : -1);
        CHECK.due("how many", bench.count(2), isRegister ? 1 : 0);
    }

    private static void noSuchInput() {
        CHECK.sentence("Promise 3: INPUT (that there is)");
        for (int inputs = 0; inputs <= 4; inputs++) {
            SymbolBench bench = new SymbolBench();
            for (int k = 0; k < inputs; k++) {
                bench.input(1, false);
            }
            int told = 0;
            for (int k : new int[] {Edge.LEAST, -1, 0, 1, 2, 3, 4, 5, 15, 256, Edge.MOST}) {
                boolean isThere = k >= 0 && k < inputs;
                CHECK.due("INPUT " + k + " of " + inputs, bench.tell(Op.INPUT, 0, k, 0), isThere ? told : -1);
                told += isThere ? 1 : 0;
                CHECK.due("how many", bench.count(2), told);
            }
        }
    }

    private static void targets() {
        CHECK.sentence("Terms: a target is a place behind the instruction's own, 60 at most");
        for (int place = 0; place < 60; place++) {
            for (int target : new int[] {Edge.LEAST, -1, 0, place - 1, place, place + 1, 59, 60, 61, 64, 256, Edge.MOST}) {
                boolean isTarget = target > place && target <= 60;
                SymbolBench jumps = Edge.idle(place);
                CHECK.due("JUMP " + target + " at " + place, jumps.tell(Op.JUMP, target, 0, 0), isTarget ? place : -1);
                CHECK.due("how many", jumps.count(2), isTarget ? place + 1 : place);
                SymbolBench ifs = Edge.idle(place);
                CHECK.due("IF to " + target + " at " + place, ifs.tell(Op.IF, 0, target, 0), isTarget ? place : -1);
                CHECK.due("how many", ifs.count(2), isTarget ? place + 1 : place);
            }
        }
    }

    private static void failNumbers() {
        CHECK.sentence("Terms: FAIL k: 0 to 255");
        for (int k : new int[] {Edge.LEAST, -256, -255, -1, 256, 257, 511, 1 << 16, Edge.MOST}) {
            SymbolBench bench = new SymbolBench();
            CHECK.due("FAIL " + k, bench.tell(Op.FAIL, k, 0, 0), -1);
            CHECK.due("how many", bench.count(2), 0);
        }
        for (int k = 0; k <= 255; k++) {
            SymbolBench bench = new SymbolBench();
            CHECK.due("FAIL " + k, bench.tell(Op.FAIL, k, 0, 0), 0);
            CHECK.due("run", bench.run(0), 4);
            CHECK.due("RESULT of FAIL " + k, bench.ran(2), k);
        }
    }

    private static void whatIsNotThere() {
        CHECK.sentence("Promise 3: with what stands behind its number in order (what is not there, of no matter)");
        for (int number = 0; number <= 31; number++) {
            boolean takesOne = number >= Op.JUMP || number == Op.HALT;
            boolean takesThree = registersOf(number) == 3;
            for (int word : new int[] {Edge.LEAST, -1, 16, 61, 256, Edge.MOST}) {
                SymbolBench bench = new SymbolBench();
                bench.input(1, false);
                int first = number == Op.JUMP ? 1 : 0;
                int second = takesOne ? word : number == Op.IF ? 1 : 0;
                CHECK.due("tell(" + number + ", " + first + ", " + second + ", " + word + ")",
                    bench.tell(number, first, second, takesThree ? 0 : word), 0);
            }
        }
    }

    private static void sixMultiplications() {
        CHECK.sentence("Terms: At most 6 are MUL");
        SymbolBench bench = new SymbolBench();
        for (int k = 0; k < 6; k++) {
            CHECK.due("MUL " + k, bench.tell(Op.MUL, k, k, k), k);
        }
        for (int k = 0; k < 16; k++) {
            CHECK.due("a seventh MUL", bench.tell(Op.MUL, k, k, k), -1);
        }
        CHECK.due("how many", bench.count(2), 6);
        for (int number = 0; number <= 31; number++) {
            if (number != Op.MUL && number != Op.INPUT) {
                int place = bench.count(2);
                int first = number == Op.JUMP ? 60 : 0;
                CHECK.due(number + " behind six MULs", bench.tell(number, first, number == Op.IF ? 60 : 0, 0), place);
            }
        }
        CHECK.due("a seventh MUL later", bench.tell(Op.MUL, 0, 0, 0), -1);
    }

    private static void sixDivisions() {
        CHECK.sentence("Terms: 6 are UDIV, UREM, SDIV or SREM");
        for (int mix = 0; mix < 4096; mix += 13) {
            SymbolBench bench = new SymbolBench();
            for (int k = 0; k < 6; k++) {
                CHECK.due("division " + k, bench.tell(Op.UDIV + (mix >> 2 * k & 3), 0, 0, 0), k);
            }
            for (int number = Op.UDIV; number <= Op.SREM; number++) {
                CHECK.due("a seventh, " + number, bench.tell(number, 0, 0, 0), -1);
            }
            CHECK.due("how many", bench.count(2), 6);
        }
        SymbolBench bench = new SymbolBench();
        for (int k = 0; k < 6; k++) {
            bench.tell(Op.SREM, 0, 0, 0);
        }
        for (int number = 0; number <= 31; number++) {
            boolean isDivision = number >= Op.UDIV && number <= Op.SREM;
            if (!isDivision && number != Op.INPUT) {
                int place = bench.count(2);
                int first = number == Op.JUMP ? 60 : 0;
                CHECK.due(number + " behind six divisions", bench.tell(number, first, number == Op.IF ? 60 : 0, 0), place);
            }
        }
    }

    private static void limitsAreApart() {
        CHECK.sentence("Promise 3: or one more MUL or division would be too many");
        for (int multiplications = 0; multiplications <= 7; multiplications++) {
            for (int divisions = 0; divisions <= 7; divisions++) {
                SymbolBench bench = new SymbolBench();
                for (int k = 1; k <= multiplications; k++) {
                    CHECK.isTrue("MUL " + k, bench.tell(Op.MUL, 0, 0, 0) >= 0 == k <= 6);
                }
                for (int k = 1; k <= divisions; k++) {
                    CHECK.isTrue("division " + k, bench.tell(Op.UDIV + k % 4, 0, 0, 0) >= 0 == k <= 6);
                }
                CHECK.due("how many", bench.count(2), Math.min(multiplications, 6) + Math.min(divisions, 6));
            }
        }
    }

    private static void refusedOnesDoNotCount() {
        CHECK.sentence("Promise 3: NONE, and none comes (a refused MUL or division is none of the six)");
        SymbolBench bench = new SymbolBench();
        for (int k = 0; k < 6; k++) {
            for (int number : new int[] {Op.MUL, Op.UDIV, Op.UREM, Op.SDIV, Op.SREM}) {
                CHECK.due("no rd", bench.tell(number, 16, 0, 0), -1);
                CHECK.due("no rs", bench.tell(number, 0, -1, 0), -1);
                CHECK.due("no rt", bench.tell(number, 0, 0, 16), -1);
            }
            CHECK.due("MUL", bench.tell(Op.MUL, 0, 0, 0), 2 * k);
            CHECK.due("division", bench.tell(Op.UDIV + k % 4, 0, 0, 0), 2 * k + 1);
        }
        CHECK.due("a seventh MUL", bench.tell(Op.MUL, 0, 0, 0), -1);
        CHECK.due("a seventh division", bench.tell(Op.UDIV, 0, 0, 0), -1);
    }

    private static void clearTellsHowMany() {
        CHECK.sentence("Promise 4: how many instructions there were");
        for (int size = 0; size <= 60; size++) {
            SymbolBench bench = Edge.idle(size);
            CHECK.due("clear() of " + size, bench.clear(), size);
            CHECK.due("clear() again", bench.clear(), 0);
        }
        SymbolBench full = Edge.idle(60);
        full.tell(Op.HALT, 0, 0, 0);
        CHECK.due("clear() behind a refused instruction", full.clear(), 60);
        SymbolBench inputs = new SymbolBench();
        inputs.input(3, false);
        inputs.input(3, false);
        CHECK.due("clear() of inputs alone", inputs.clear(), 0);
    }

    private static void clearLeavesNothing() {
        CHECK.sentence("Promise 4: No inputs, no program");
        SymbolBench bench = new SymbolBench();
        for (int round = 0; round < 3; round++) {
            for (int k = 0; k < 4; k++) {
                CHECK.due("input " + k, bench.input(3, true), k);
            }
            for (int k = 0; k < 6; k++) {
                CHECK.due("MUL " + k, bench.tell(Op.MUL, 0, 0, 0), 2 * k);
                CHECK.due("division " + k, bench.tell(Op.UDIV + k % 4, 0, 0, 0), 2 * k + 1);
            }
            CHECK.due("a seventh MUL", bench.tell(Op.MUL, 0, 0, 0), -1);
            CHECK.due("a seventh division", bench.tell(Op.SDIV, 0, 0, 0), -1);
            Edge.fill(bench, 60);
            CHECK.due("a fifth input", bench.input(1, false), -1);
            CHECK.due("a 61st instruction", bench.tell(Op.HALT, 0, 0, 0), -1);
            CHECK.due("clear()", bench.clear(), 60);
            counts(bench, "cleared", 0, 0, 0, -1, -1, -1);
            CHECK.due("INPUT 0 is gone", bench.tell(Op.INPUT, 0, 0, 0), -1);
            CHECK.due("words are gone", bench.run(1), -1);
        }
        CHECK.due("explore() of nothing", bench.explore(), 1);
        CHECK.due("nothing is done", bench.run(0), 0);
        CHECK.due("instructions done", bench.ran(3), 0);
    }

    /** The 512th call of an object that was used to its limits answers as a new object's would. */
    private static void fiveHundredAndTwelveCalls() {
        CHECK.sentence("What it is: An object is used for at most 512 calls after it has been made");
        SymbolBench bench = new SymbolBench();
        int calls = 0;
        while (calls < 448) {
            bench.input(12, true);
            bench.tell(Op.INPUT, 0, 0, 0);
            bench.tell(Op.UDIV, 1, 1, 0);
            bench.tell(Op.STORE, 0, 0, 0);
            bench.explore();
            bench.run(7);
            bench.value(1, 4095);
            bench.clear();
            calls += 8;
        }
        bench.input(12, false);
        bench.tell(Op.INPUT, 0, 0, 0);
        bench.tell(Op.IF, 0, 60, 0);
        calls += 3;
        while (calls < 508) {
            CHECK.due("call " + (calls + 1), bench.tell(Op.ADD, 1, 0, 0), calls - 449);
            calls++;
        }
        CHECK.due("call 509", bench.run(4095), 0);
        CHECK.due("call 510", bench.explore(), 2);
        CHECK.due("call 511", bench.path(0, 1), 59);
        CHECK.due("call 512", bench.find(0, 0, 0), 1);
        // What these answer is free, but they must come back: an exception would end the test.
        bench.clear();
        bench.explore();
        bench.count(2);
    }
}
