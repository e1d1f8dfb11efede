/**
 * The boundaries of what instructions do, sentence by sentence (Terms): values that go round, shifts, divisions,
 * comparisons, cells, decisions, ends. What is due is reckoned without Java's own int operations.
 */
public final class ValuesEdgesTest {
    private static final Check CHECK = new Check();
    private static final int LEAST = Edge.LEAST;
    private static final int MOST = Edge.MOST;

    public static void main(String[] args) {
        constOfAnyValue();
        valuesGoRound();
        negativeAndNotGoRound();
        bitByBit();
        shiftsByFiveBits();
        divisionsWithoutSign();
        divisionsTowardsZero();
        leastValueByMinusOne();
        comparisonsGiveOneOrZero();
        operandsOfInputs();
        selectTakesOrStays();
        registersAreZeroAtFirst();
        cellsAreZeroAtFirst();
        everyRegisterAndCellIsItsOwn();
        numbersOfCells();
        ifAndAssertOfNotZero();
        behindTheLastInstruction();
        targetsBehindTheLast();
        divisionsByZeroEnd();
        resultOfEachEnd();
        whatDecides();
        whatDecidesNot();
        failuresChangeNothing();
        CHECK.finish();
    }

    /** An instruction of rd rs rt, also onto its own operands: by run(), by explore() and by value(). */
    private static void gives(int number, int x, int y, int want) {
        for (int target = 1; target <= 3; target++) {
            String what = number + " of " + x + ", " + y + " onto " + target;
            SymbolBench bench = Edge.given(x, y, Op.i(number, target, 1, 2), Op.i(Op.HALT, target));
            CHECK.due(what + ": run", bench.run(0), 0);
            CHECK.due(what + ": RESULT", bench.ran(2), want);
            CHECK.due(what + ": register", bench.register(target), want);
            CHECK.due(what + ": explore", bench.explore(), 1);
            CHECK.due(what + ": path", bench.path(0, 4), want);
            CHECK.due(what + ": value", bench.value(0, 0), want);
        }
    }

    private static void givesReckoned(int x, int y, int... numbers) {
        for (int number : numbers) {
            gives(number, x, y, Reckon.of(number, x, y));
        }
    }

    private static void givesOfOne(int number, int x, int want) {
        for (int target = 1; target <= 3; target++) {
            SymbolBench bench = Edge.given(x, 77, Op.i(number, target, 1), Op.i(Op.HALT, target));
            bench.run(0);
            CHECK.due(number + " of " + x + " onto " + target, bench.ran(2), want);
            bench.explore();
            CHECK.due(number + " of " + x + ": path", bench.path(0, 4), want);
        }
    }

    private static void constOfAnyValue() {
        CHECK.sentence("Terms: CONST rd v: any value");
        for (int v : new int[] {LEAST, LEAST + 1, -65536, -4096, -256, -16, -1, 0, 1, 15, 16, 60, 61, 255, 256, 4095, 4096,
            65535, 65536, MOST - 1, MOST}) {
            SymbolBench bench = new SymbolBench();
            CHECK.due("CONST of " + v, bench.tell(Op.CONST, 15, v, 0), 0);
            bench.run(0);
            CHECK.due("CONST of " + v + ": register", bench.register(15), v);
            givesOfOne(Op.COPY, v, v);
        }
    }

    private static void valuesGoRound() {
        CHECK.sentence("Terms: VALUES have 32 bits and go round");
        gives(Op.ADD, MOST, 1, LEAST);
        gives(Op.ADD, MOST - 1, 1, MOST);
        gives(Op.ADD, -1, 1, 0);
        gives(Op.ADD, LEAST, -1, MOST);
        gives(Op.ADD, LEAST, LEAST, 0);
        gives(Op.SUB, LEAST, 1, MOST);
        gives(Op.SUB, LEAST + 1, 1, LEAST);
        gives(Op.SUB, 0, 1, -1);
        gives(Op.SUB, 0, LEAST, LEAST);
        gives(Op.MUL, 65536, 65536, 0);
        gives(Op.MUL, 65536, 65535, -65536);
        gives(Op.MUL, 65536, 32768, LEAST);
        gives(Op.MUL, 46340, 46340, 2147395600);
        gives(Op.MUL, 46341, 46341, -2147479015);
        gives(Op.MUL, LEAST, -1, LEAST);
        gives(Op.MUL, LEAST, 2, 0);
        gives(Op.MUL, MOST, MOST, 1);
        for (int x : Edge.VALUES) {
            for (int y : Edge.VALUES) {
                givesReckoned(x, y, Op.ADD, Op.SUB, Op.MUL);
            }
        }
    }

    private static void negativeAndNotGoRound() {
        CHECK.sentence("Terms: NOT rd rs (each bit). NEG rd rs.");
        givesOfOne(Op.NEG, LEAST, LEAST);
        givesOfOne(Op.NEG, LEAST + 1, MOST);
        givesOfOne(Op.NEG, MOST, LEAST + 1);
        givesOfOne(Op.NEG, 0, 0);
        givesOfOne(Op.NEG, 1, -1);
        givesOfOne(Op.NEG, -1, 1);
        givesOfOne(Op.NOT, 0, -1);
        givesOfOne(Op.NOT, -1, 0);
        givesOfOne(Op.NOT, LEAST, MOST);
        givesOfOne(Op.NOT, MOST, LEAST);
        givesOfOne(Op.NOT, 1, -2);
    }

    private static void bitByBit() {
        CHECK.sentence("Terms: AND, OR, XOR");
        for (int x : Edge.VALUES) {
            for (int y : Edge.VALUES) {
                givesReckoned(x, y, Op.AND, Op.OR, Op.XOR);
            }
        }
    }

    private static void shiftsByFiveBits() {
        CHECK.sentence("Terms: SHL, SHR (0s come), SAR (the sign comes; all three by the lowest five bits of rt)");
        gives(Op.SHL, 3, 31, LEAST);
        gives(Op.SHL, 3, 32, 3);
        gives(Op.SHL, 3, 33, 6);
        gives(Op.SHR, LEAST, 31, 1);
        gives(Op.SHR, LEAST, 32, LEAST);
        gives(Op.SHR, LEAST, -1, 1);
        gives(Op.SAR, LEAST, 31, -1);
        gives(Op.SAR, LEAST, 32, LEAST);
        gives(Op.SAR, MOST, 31, 0);
        int[] amounts = {LEAST, LEAST + 31, -33, -32, -31, -1, 0, 1, 15, 16, 30, 31, 32, 33, 63, 64, 65, 256, MOST};
        for (int x : new int[] {LEAST, -2, -1, 0, 1, 0x12345678, 0x87654321, MOST}) {
            for (int amount : amounts) {
                givesReckoned(x, amount, Op.SHL, Op.SHR, Op.SAR);
            }
        }
    }

    private static void divisionsWithoutSign() {
        CHECK.sentence("Terms: UDIV, UREM (both without sign)");
        gives(Op.UDIV, -1, MOST, 2);
        gives(Op.UREM, -1, MOST, 1);
        gives(Op.UDIV, LEAST, MOST, 1);
        gives(Op.UREM, LEAST, MOST, 1);
        gives(Op.UDIV, MOST, LEAST, 0);
        gives(Op.UREM, MOST, LEAST, MOST);
        gives(Op.UDIV, LEAST, -1, 0);
        gives(Op.UREM, LEAST, -1, LEAST);
        gives(Op.UDIV, -1, 1, -1);
        gives(Op.UDIV, -1, -1, 1);
        for (int x : Edge.VALUES) {
            for (int y : Edge.VALUES) {
                if (y != 0) {
                    givesReckoned(x, y, Op.UDIV, Op.UREM);
                }
            }
        }
    }

    private static void divisionsTowardsZero() {
        CHECK.sentence("Terms: SDIV, SREM (towards 0, the rest has the sign of rs)");
        gives(Op.SDIV, 7, 2, 3);
        gives(Op.SDIV, -7, 2, -3);
        gives(Op.SDIV, 7, -2, -3);
        gives(Op.SDIV, -7, -2, 3);
        gives(Op.SREM, 7, 2, 1);
        gives(Op.SREM, -7, 2, -1);
        gives(Op.SREM, 7, -2, 1);
        gives(Op.SREM, -7, -2, -1);
        for (int x : new int[] {LEAST, LEAST + 1, -8, -7, -6, -2, -1, 0, 1, 2, 6, 7, 8, MOST - 1, MOST}) {
            for (int y : new int[] {LEAST, LEAST + 1, -7, -3, -2, -1, 1, 2, 3, 7, MOST}) {
                givesReckoned(x, y, Op.SDIV, Op.SREM);
            }
        }
    }

    private static void leastValueByMinusOne() {
        CHECK.sentence("Terms: the least value by -1: itself, 0");
        gives(Op.SDIV, LEAST, -1, LEAST);
        gives(Op.SREM, LEAST, -1, 0);
        gives(Op.SDIV, LEAST + 1, -1, MOST);
        gives(Op.SREM, LEAST + 1, -1, 0);
        gives(Op.SDIV, LEAST, -2, 1 << 30);
        gives(Op.SDIV, LEAST, 1, LEAST);
        gives(Op.SREM, LEAST, 1, 0);
        gives(Op.SDIV, MOST, -1, LEAST + 1);
    }

    private static void comparisonsGiveOneOrZero() {
        CHECK.sentence("Terms: giving 1 or 0, EQ, NE, ULT, ULE (without sign), SLT, SLE");
        gives(Op.ULT, MOST, LEAST, 1);
        gives(Op.SLT, MOST, LEAST, 0);
        gives(Op.ULE, -1, 0, 0);
        gives(Op.SLE, -1, 0, 1);
        gives(Op.ULT, 5, 5, 0);
        gives(Op.ULE, 5, 5, 1);
        gives(Op.SLT, -5, -5, 0);
        gives(Op.SLE, -5, -5, 1);
        for (int x : Edge.VALUES) {
            for (int y : Edge.VALUES) {
                givesReckoned(x, y, Op.EQ, Op.NE, Op.ULT, Op.ULE, Op.SLT, Op.SLE);
            }
        }
    }

    /** The same, but the operands are not known ahead: both come from the input word, moved to where values turn. */
    private static void operandsOfInputs() {
        CHECK.sentence("Terms: VALUES have 32 bits and go round (of inputs)");
        int[] bases = {LEAST, -1, 0, 32, MOST};
        for (int number = Op.ADD; number <= Op.SLE; number++) {
            for (int xBase : bases) {
                for (int yBase : bases) {
                    ofInputs(number, xBase, yBase);
                }
            }
        }
    }

    private static void ofInputs(int number, int xBase, int yBase) {
        SymbolBench bench = new SymbolBench();
        bench.input(3, true);
        bench.input(2, true);
        Op.tell(bench, Op.i(Op.INPUT, 1, 0), Op.i(Op.CONST, 3, xBase), Op.i(Op.ADD, 1, 1, 3), Op.i(Op.INPUT, 2, 1),
            Op.i(Op.CONST, 3, yBase), Op.i(Op.ADD, 2, 2, 3), Op.i(number, 4, 1, 2), Op.i(Op.HALT, 4));
        bench.explore();
        for (int word = 0; word < 32; word++) {
            int x = xBase + (word >> 2) - (word >= 16 ? 8 : 0);
            int y = yBase + (word & 3) - ((word & 2) != 0 ? 4 : 0);
            boolean fails = y == 0 && number >= Op.UDIV && number <= Op.SREM;
            int want = fails ? 0 : Reckon.of(number, x, y);
            String what = number + " of " + x + ", " + y;
            CHECK.due(what + ": run", bench.run(word), fails ? 1 : 0);
            CHECK.due(what + ": RESULT", bench.ran(2), want);
            CHECK.due(what + ": value", bench.value(bench.ran(5), word), want);
            CHECK.due(what + ": holds", bench.holds(bench.ran(5), word), 1);
            int found = bench.find(bench.ran(5), 0, want);
            CHECK.isTrue(what + ": found at " + found, found >= 0 && found <= word);
        }
    }

    private static void selectTakesOrStays() {
        CHECK.sentence("Terms: SELECT rd rs rt: rd is rt if rs is not 0, else it stays");
        for (int chooser : Edge.VALUES) {
            for (int taken : Edge.VALUES) {
                SymbolBench bench = Edge.given(chooser, taken, Op.i(Op.CONST, 3, 33), Op.i(Op.SELECT, 3, 1, 2),
                    Op.i(Op.HALT, 3));
                bench.run(0);
                CHECK.due("SELECT by " + chooser, bench.ran(2), chooser == 0 ? 33 : taken);
                CHECK.due("the chooser stays", bench.register(1), chooser);
                CHECK.due("the other stays", bench.register(2), taken);
            }
            SymbolBench ontoChooser = Edge.given(chooser, 5, Op.i(Op.SELECT, 1, 1, 2), Op.i(Op.HALT, 1));
            ontoChooser.run(0);
            CHECK.due("SELECT onto its rs, " + chooser, ontoChooser.ran(2), chooser == 0 ? 0 : 5);
            SymbolBench ontoOther = Edge.given(chooser, 5, Op.i(Op.SELECT, 2, 1, 2), Op.i(Op.HALT, 2));
            ontoOther.run(0);
            CHECK.due("SELECT onto its rt, " + chooser, ontoOther.ran(2), 5);
        }
    }

    /** A register is counted up by the word: what an earlier run left there would be counted too. */
    private static void registersAreZeroAtFirst() {
        CHECK.sentence("Terms: REGISTERS 0 to 15 are 0 at first");
        for (int k = 0; k < 16; k++) {
            int other = (k + 1) % 16;
            SymbolBench bench = Op.bench(2, Op.i(Op.INPUT, other, 0), Op.i(Op.ADD, k, k, other), Op.i(Op.NOT, k, k),
                Op.i(Op.HALT, k));
            leftOvers(bench, "register " + k);
        }
    }

    private static void cellsAreZeroAtFirst() {
        CHECK.sentence("Terms: CELLS 0 to 7 are 0 at first");
        for (int k = 0; k < 8; k++) {
            SymbolBench bench = Op.bench(2, Op.i(Op.INPUT, 0, 0), Op.i(Op.CONST, 1, k), Op.i(Op.LOAD, 2, 1),
                Op.i(Op.ADD, 2, 2, 0), Op.i(Op.NOT, 2, 2), Op.i(Op.STORE, 1, 2), Op.i(Op.HALT, 2));
            leftOvers(bench, "cell " + k);
        }
    }

    /** RESULT is NOT of the word, for each word, whatever was run, explored or valued ahead. */
    private static void leftOvers(SymbolBench bench, String where) {
        for (int word : new int[] {3, 0, 3, 2, 1, 0}) {
            bench.run(word);
            CHECK.due(where + ": RESULT of run(" + word + ")", bench.ran(2), -1 - word);
        }
        bench.explore();
        CHECK.due(where + ": RESULT at the least word", bench.path(0, 4), -1);
        for (int word : new int[] {3, 0, 2, 2, 1}) {
            CHECK.due(where + ": value", bench.value(0, word), -1 - word);
            CHECK.due(where + ": find", bench.find(0, 0, -1 - word), word);
            bench.run(word);
            CHECK.due(where + ": RESULT of run(" + word + ") behind explore()", bench.ran(2), -1 - word);
        }
    }

    private static void everyRegisterAndCellIsItsOwn() {
        CHECK.sentence("Terms: REGISTERS 0 to 15 and CELLS 0 to 7");
        SymbolBench registers = new SymbolBench();
        for (int k = 0; k < 16; k++) {
            registers.tell(Op.CONST, k, 100 + k, 0);
        }
        registers.run(0);
        for (int k = -2; k < 18; k++) {
            CHECK.due("register(" + k + ")", registers.register(k), k >= 0 && k < 16 ? 100 + k : 0);
        }
        SymbolBench cells = new SymbolBench();
        for (int k = 0; k < 8; k++) {
            Op.tell(cells, Op.i(Op.CONST, 0, k), Op.i(Op.CONST, 1, 200 + k), Op.i(Op.STORE, 0, 1));
        }
        for (int k = 0; k < 8; k++) {
            Op.tell(cells, Op.i(Op.CONST, 0, k), Op.i(Op.LOAD, 8 + k, 0));
        }
        CHECK.due("run(0)", cells.run(0), 0);
        for (int k = -2; k < 10; k++) {
            CHECK.due("cell(" + k + ")", cells.cell(k), k >= 0 && k < 8 ? 200 + k : 0);
        }
        for (int k = 0; k < 8; k++) {
            CHECK.due("loaded from cell " + k, cells.register(8 + k), 200 + k);
        }
        SymbolBench itself = Edge.given(3, 44, Op.i(Op.STORE, 1, 2), Op.i(Op.LOAD, 1, 1), Op.i(Op.HALT, 1));
        itself.run(0);
        CHECK.due("LOAD onto its number", itself.ran(2), 44);
    }

    private static void numbersOfCells() {
        CHECK.sentence("Terms: PLACE: LOAD, STORE of a number without sign that is not below 8");
        for (int number : new int[] {LEAST, LEAST + 7, -8, -7, -1, 0, 1, 6, 7, 8, 9, 15, 16, 256, 65536, MOST}) {
            boolean isCell = number >= 0 && number <= 7;
            SymbolBench load = Edge.given(number, 5, Op.i(Op.LOAD, 2, 1), Op.i(Op.HALT, 1));
            CHECK.due("LOAD of " + number, load.run(0), isCell ? 0 : 2);
            CHECK.due("LOAD of " + number + ": place", load.ran(1), isCell ? 3 : 2);
            CHECK.due("LOAD of " + number + ": RESULT", load.ran(2), isCell ? number : 0);
            CHECK.due("LOAD of " + number + ": rd", load.register(2), isCell ? 0 : 5);
            load.explore();
            CHECK.due("LOAD of " + number + ": decision", load.decision(0, 0), isCell ? 5 : 4);
            SymbolBench store = Edge.given(number, 5, Op.i(Op.STORE, 1, 2), Op.i(Op.HALT, 1));
            CHECK.due("STORE at " + number, store.run(0), isCell ? 0 : 2);
            CHECK.due("STORE at " + number + ": place", store.ran(1), isCell ? 3 : 2);
            for (int k = 0; k < 8; k++) {
                CHECK.due("STORE at " + number + ": cell " + k, store.cell(k), k == number ? 5 : 0);
            }
            store.explore();
            CHECK.due("STORE at " + number + ": decision", store.decision(0, 0), isCell ? 5 : 4);
        }
    }

    private static void ifAndAssertOfNotZero() {
        CHECK.sentence("Terms: IF rs target: there if rs is not 0; ASSERT of 0");
        for (int value : new int[] {LEAST, LEAST + 1, -256, -2, -1, 0, 1, 2, 16, 256, 65536, 1 << 30, MOST}) {
            SymbolBench decides = Edge.given(value, 0, Op.i(Op.IF, 1, 4), Op.i(Op.FAIL, 1), Op.i(Op.FAIL, 2));
            CHECK.due("IF " + value, decides.run(0), 4);
            CHECK.due("IF " + value + " goes to", decides.ran(1), value == 0 ? 3 : 4);
            decides.explore();
            CHECK.due("IF " + value + ": decision", decides.decision(0, 0), value == 0 ? 4 : 5);
            SymbolBench asserts = Edge.given(value, 0, Op.i(Op.ASSERT, 1), Op.i(Op.FAIL, 1));
            CHECK.due("ASSERT " + value, asserts.run(0), value == 0 ? 3 : 4);
            CHECK.due("ASSERT " + value + " ends at", asserts.ran(1), value == 0 ? 2 : 3);
            asserts.explore();
            CHECK.due("ASSERT " + value + ": decision", asserts.decision(0, 0), value == 0 ? 4 : 5);
        }
    }

    private static void halts(SymbolBench bench, String what, int place, int done) {
        CHECK.due(what + ": run(0)", bench.run(0), 0);
        int[] want = {0, place, 0, done};
        for (int k = 0; k < 4; k++) {
            CHECK.due(what + ": ran(" + k + ")", bench.ran(k), want[k]);
        }
        CHECK.due(what + ": explore()", bench.explore(), 1);
        CHECK.due(what + ": end", bench.path(0, 0), 0);
        CHECK.due(what + ": place", bench.path(0, 1), place);
        CHECK.due(what + ": RESULT", bench.path(0, 4), 0);
    }

    private static void behindTheLastInstruction() {
        CHECK.sentence("Terms: behind the last instruction it HALTS with 0");
        for (int size = 0; size <= 60; size++) {
            SymbolBench bench = new SymbolBench();
            for (int place = 0; place < size; place++) {
                bench.tell(Op.CONST, place % 16, 9, 0);
            }
            halts(bench, size + " instructions", size, size);
        }
    }

    /** A target that lies behind the last instruction, and the same when an instruction has come there. */
    private static void targetsBehindTheLast() {
        CHECK.sentence("Terms: behind the last instruction it HALTS with 0 (by a target)");
        for (int target : new int[] {3, 4, 5, 59, 60}) {
            SymbolBench jumps = Edge.given(9, 9, Op.i(Op.JUMP, target));
            halts(jumps, "JUMP to " + target, 3, 3);
            SymbolBench ifs = Edge.given(9, 9, Op.i(Op.IF, 1, target));
            halts(ifs, "IF to " + target, 3, 3);
            Edge.fill(jumps, 59);
            CHECK.due("the last instruction", jumps.tell(Op.HALT, 1, 0, 0), 59);
            CHECK.due("run(0)", jumps.run(0), 0);
            CHECK.due("it ends at", jumps.ran(1), target == 60 ? 60 : 59);
            CHECK.due("its RESULT", jumps.ran(2), target == 60 ? 0 : 9);
            CHECK.due("its instructions", jumps.ran(3), 3 + 60 - target);
        }
    }

    private static void divisionsByZeroEnd() {
        CHECK.sentence("Terms: DIVISION: 12 to 15 by 0");
        for (int number = Op.UDIV; number <= Op.SREM; number++) {
            for (int x : Edge.VALUES) {
                for (int y : new int[] {LEAST, -1, 0, 1, MOST}) {
                    SymbolBench bench = Edge.given(x, y, Op.i(number, 3, 1, 2), Op.i(Op.FAIL, 7));
                    CHECK.due(number + " of " + x + " by " + y, bench.run(0), y == 0 ? 1 : 4);
                    CHECK.due("its place", bench.ran(1), y == 0 ? 2 : 3);
                    CHECK.due("its RESULT", bench.ran(2), y == 0 ? 0 : 7);
                    bench.explore();
                    CHECK.due("its decision", bench.decision(0, 0), y == 0 ? 4 : 5);
                }
            }
        }
    }

    private static void ends(String what, SymbolBench bench, int end, int place, int result) {
        CHECK.due(what + ": run(0)", bench.run(0), end);
        CHECK.due(what + ": place", bench.ran(1), place);
        CHECK.due(what + ": RESULT", bench.ran(2), result);
        bench.explore();
        CHECK.due(what + ": path(0, 0)", bench.path(0, 0), end);
        CHECK.due(what + ": path(0, 1)", bench.path(0, 1), place);
        CHECK.due(what + ": path(0, 4)", bench.path(0, 4), result);
        CHECK.due(what + ": value(0, 0)", bench.value(0, 0), result);
    }

    private static void resultOfEachEnd() {
        CHECK.sentence("Terms: RESULT: of HALT its value, of FAIL k, else 0");
        for (int x : Edge.VALUES) {
            ends("HALT", Edge.given(x, 8, Op.i(Op.HALT, 1)), 0, 2, x);
            ends("behind the last", Edge.given(x, 8), 0, 2, 0);
            ends("FAIL 0", Edge.given(x, 8, Op.i(Op.FAIL, 0)), 4, 2, 0);
            ends("FAIL 255", Edge.given(x, 8, Op.i(Op.FAIL, 255)), 4, 2, 255);
            ends("ASSERT", Edge.given(x, 8, Op.i(Op.ASSERT, 0)), 3, 2, 0);
            ends("LOAD", Edge.given(x, 8, Op.i(Op.LOAD, 1, 2)), 2, 2, 0);
            ends("STORE", Edge.given(x, 8, Op.i(Op.STORE, 2, 1)), 2, 2, 0);
            ends("UDIV", Edge.given(x, 8, Op.i(Op.UDIV, 1, 1, 0)), 1, 2, 0);
            ends("SREM", Edge.given(x, 8, Op.i(Op.SREM, 1, 1, 0)), 1, 2, 0);
        }
    }

    /** One instruction with x in registers 1 and 3 and y in register 2: what it decides on is rs, but rt of 12 to 15. */
    private static SymbolBench single(int number, int x, int y) {
        int second = number == Op.IF ? 4 : number == Op.LOAD ? 1 : 2;
        int first = number == Op.JUMP ? 4 : 1;
        return Edge.given(x, y, Op.i(Op.COPY, 3, 1), Op.i(number, first, second, 3));
    }

    private static boolean decides(int number) {
        return number >= Op.UDIV && number <= Op.SREM || number == Op.LOAD || number == Op.STORE || number == Op.IF
            || number == Op.ASSERT;
    }

    private static void whatDecides() {
        CHECK.sentence("Terms: A DECISION is made each time 12 to 15, LOAD, STORE, IF, ASSERT are come to");
        for (int number = 0; number <= 31; number++) {
            for (int x : new int[] {LEAST, -1, 0, 1, 7, 8, 9, MOST}) {
                if (decides(number)) {
                    SymbolBench bench = single(number, x, 3);
                    boolean ofCells = number == Op.LOAD || number == Op.STORE;
                    boolean isOne = ofCells ? x >= 0 && x < 8 : x != 0;
                    CHECK.due("explore()", bench.explore(), 1);
                    CHECK.due(number + " decides once", bench.path(0, 2), 1);
                    CHECK.due(number + " of " + x, bench.decision(0, 0), isOne ? 7 : 6);
                    CHECK.due("no second decision", bench.decision(0, 1), -1);
                    bench.run(0);
                    CHECK.due("decisions of the run", bench.ran(4), 1);
                }
            }
        }
    }

    private static void whatDecidesNot() {
        CHECK.sentence("Terms: A DECISION is made each time .. (no other instruction makes one)");
        for (int number = 0; number <= 31; number++) {
            for (int x : new int[] {LEAST, 0, 1, 8}) {
                if (!decides(number) && number != Op.INPUT) {
                    SymbolBench bench = single(number, x, 0);
                    CHECK.due("all came", bench.count(2), 4);
                    CHECK.due("explore()", bench.explore(), 1);
                    CHECK.due(number + " does not decide", bench.path(0, 2), 0);
                    CHECK.due("no decision", bench.decision(0, 0), -1);
                    bench.run(0);
                    CHECK.due("decisions of the run", bench.ran(4), 0);
                }
            }
        }
        SymbolBench input = Op.bench(3, Op.i(Op.INPUT, 1, 0), Op.i(Op.SELECT, 2, 1, 1), Op.i(Op.HALT, 2));
        CHECK.due("INPUT and SELECT part nothing", input.explore(), 1);
        CHECK.due("INPUT and SELECT decide nothing", input.path(0, 2), 0);
    }

    private static void failuresChangeNothing() {
        CHECK.sentence("Terms: FAILURES (the instruction that fails does nothing but end)");
        for (int number = Op.UDIV; number <= Op.SREM; number++) {
            SymbolBench bench = Edge.given(7, 0, Op.i(Op.CONST, 3, 33), Op.i(number, 3, 1, 2), Op.i(Op.CONST, 1, 8));
            CHECK.due("division by 0", bench.run(0), 1);
            CHECK.due("its rd", bench.register(3), 33);
            CHECK.due("what stands behind it", bench.register(1), 7);
        }
        SymbolBench load = Edge.given(8, 5, Op.i(Op.LOAD, 2, 1), Op.i(Op.CONST, 1, 1));
        CHECK.due("LOAD of 8", load.run(0), 2);
        CHECK.due("its rd", load.register(2), 5);
        CHECK.due("what stands behind it", load.register(1), 8);
    }
}
