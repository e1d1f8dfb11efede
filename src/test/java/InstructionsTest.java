/** What each instruction does and how it ends a run: run (11), ran (12), register (13), cell (14). */
public final class InstructionsTest {
    private static final Check CHECK = new Check();
    private static final int LEAST = Integer.MIN_VALUE;
    private static final int MOST = Integer.MAX_VALUE;

    public static void main(String[] args) {
        arithmeticGoesRound();
        shiftsTakeFiveBits();
        divisions();
        comparisons();
        onesWithOneOperand();
        selectKeepsOrTakes();
        cellsAreKept();
        ends();
        failuresWriteNothing();
        CHECK.finish();
    }

    /** HALT's value of one instruction of two operands. */
    private static void combined(int number, int x, int y, int want) {
        SymbolBench bench = Op.bench(0, Op.i(Op.CONST, 1, x), Op.i(Op.CONST, 2, y),
            Op.i(number, 3, 1, 2), Op.i(Op.HALT, 3));
        String call = number + " of " + x + ", " + y;
        CHECK.due(call + ": run", bench.run(0), 0);
        CHECK.due(call + ": RESULT", bench.ran(2), want);
        CHECK.due(call + ": register", bench.register(3), want);
        CHECK.due(call + ": first operand", bench.register(1), x);
        CHECK.due(call + ": explored", bench.explore(), 1);
        CHECK.due(call + ": value", bench.value(0, 0), want);
        combinedOntoItself(number, x, y, want);
    }

    private static void combinedOntoItself(int number, int x, int y, int want) {
        for (int target = 1; target <= 2; target++) {
            SymbolBench bench = Op.bench(0, Op.i(Op.CONST, 1, x), Op.i(Op.CONST, 2, y), Op.i(number, target, 1, 2));
            bench.run(0);
            CHECK.due(number + " onto its operand " + target, bench.register(target), want);
        }
    }

    private static void arithmeticGoesRound() {
        combined(Op.ADD, 3, 4, 7);
        combined(Op.ADD, MOST, 1, LEAST);
        combined(Op.ADD, -1, -1, -2);
        combined(Op.SUB, 3, 4, -1);
        combined(Op.SUB, LEAST, 1, MOST);
        combined(Op.MUL, -3, 5, -15);
        combined(Op.MUL, 0x10000, 0x10000, 0);
        combined(Op.MUL, 0x12345, 0x6789A, (int) (0x12345L * 0x6789AL));
        combined(Op.MUL, LEAST, -1, LEAST);
        combined(Op.AND, 0xF0F0, 0x0FF0, 0x00F0);
        combined(Op.OR, 0xF0F0, 0x0FF0, 0xFFF0);
        combined(Op.XOR, 0xF0F0, 0x0FF0, 0xFF00);
        combined(Op.AND, -1, LEAST, LEAST);
    }

    private static void shiftsTakeFiveBits() {
        combined(Op.SHL, 1, 31, LEAST);
        combined(Op.SHL, 3, 32, 3);
        combined(Op.SHL, 3, 33, 6);
        combined(Op.SHL, 1, -1, LEAST);
        combined(Op.SHR, -1, 1, MOST);
        combined(Op.SHR, LEAST, 31, 1);
        combined(Op.SHR, -5, 32, -5);
        combined(Op.SHR, -1, -4, 15);
        combined(Op.SAR, -8, 1, -4);
        combined(Op.SAR, LEAST, 31, -1);
        combined(Op.SAR, MOST, 31, 0);
        combined(Op.SAR, -5, 64, -5);
        combined(Op.SAR, -16, 34, -4);
    }

    private static void divisions() {
        combined(Op.UDIV, 100, 7, 14);
        combined(Op.UDIV, -1, 2, MOST);
        combined(Op.UDIV, -1, -2, 1);
        combined(Op.UDIV, 5, -1, 0);
        combined(Op.UDIV, LEAST, -1, 0);
        combined(Op.UREM, 100, 7, 2);
        combined(Op.UREM, -1, 10, 5);
        combined(Op.UREM, 5, -1, 5);
        combined(Op.UREM, LEAST, -1, LEAST);
        combined(Op.SDIV, -7, 2, -3);
        combined(Op.SDIV, 7, -2, -3);
        combined(Op.SDIV, -7, -2, 3);
        combined(Op.SDIV, LEAST, -1, LEAST);
        combined(Op.SREM, -7, 2, -1);
        combined(Op.SREM, 7, -2, 1);
        combined(Op.SREM, -7, -2, -1);
        combined(Op.SREM, LEAST, -1, 0);
    }

    private static void comparisons() {
        int[] values = {0, 1, 2, -1, -2, LEAST, LEAST + 1, MOST, MOST - 1};
        for (int x : values) {
            for (int y : values) {
                long left = x & 0xFFFFFFFFL;
                long right = y & 0xFFFFFFFFL;
                combined(Op.EQ, x, y, left == right ? 1 : 0);
                combined(Op.NE, x, y, left == right ? 0 : 1);
                combined(Op.ULT, x, y, left < right ? 1 : 0);
                combined(Op.ULE, x, y, left <= right ? 1 : 0);
                combined(Op.SLT, x, y, (long) x < (long) y ? 1 : 0);
                combined(Op.SLE, x, y, (long) x <= (long) y ? 1 : 0);
            }
        }
    }

    private static void onesWithOneOperand() {
        SymbolBench bench = Op.bench(0, Op.i(Op.CONST, 15, LEAST), Op.i(Op.NOT, 1, 15), Op.i(Op.NEG, 2, 15),
            Op.i(Op.CONST, 3, 5), Op.i(Op.NEG, 4, 3), Op.i(Op.NOT, 5, 3), Op.i(Op.COPY, 6, 5), Op.i(Op.NOT, 7, 8));
        CHECK.due("run", bench.run(0), 0);
        int[] want = {0, MOST, LEAST, 5, -5, -6, -6, -1, 0, 0, 0, 0, 0, 0, 0, LEAST};
        for (int k = 0; k < 16; k++) {
            CHECK.due("register(" + k + ")", bench.register(k), want[k]);
        }
        for (int k : new int[] {-1, 16, 17, LEAST, MOST}) {
            CHECK.due("register(" + k + ")", bench.register(k), 0);
        }
    }

    private static void selectKeepsOrTakes() {
        for (int chooser : new int[] {0, 1, -1, LEAST}) {
            SymbolBench bench = Op.bench(0, Op.i(Op.CONST, 1, chooser), Op.i(Op.CONST, 2, 20), Op.i(Op.CONST, 3, 30),
                Op.i(Op.SELECT, 3, 1, 2), Op.i(Op.HALT, 3));
            bench.run(0);
            CHECK.due("SELECT by " + chooser, bench.ran(2), chooser == 0 ? 30 : 20);
            CHECK.due("SELECT makes no decision", bench.ran(4), 0);
        }
    }

    private static void cellsAreKept() {
        SymbolBench bench = Op.bench(4, Op.i(Op.INPUT, 0, 0), Op.i(Op.CONST, 1, 41), Op.i(Op.STORE, 0, 1),
            Op.i(Op.LOAD, 2, 0), Op.i(Op.CONST, 3, 7), Op.i(Op.LOAD, 4, 3), Op.i(Op.HALT, 2));
        for (int word = 0; word < 8; word++) {
            CHECK.due("run(" + word + ")", bench.run(word), 0);
            CHECK.due("what was stored", bench.ran(2), 41);
            CHECK.due("cell 7 loaded", bench.register(4), word == 7 ? 41 : 0);
            for (int k = -1; k <= 8; k++) {
                CHECK.due("cell(" + k + ")", bench.cell(k), k == word ? 41 : 0);
            }
            CHECK.due("cell(least)", bench.cell(LEAST), 0);
            CHECK.due("cell(most)", bench.cell(MOST), 0);
        }
        for (int word = 8; word < 16; word++) {
            CHECK.due("run(" + word + ")", bench.run(word), 2);
            CHECK.due("its place", bench.ran(1), 2);
            CHECK.due("its decisions", bench.ran(4), 1);
            CHECK.due("its cells", bench.cell(7), 0);
        }
    }

    /** The end, the place, RESULT, instructions done and decisions of a program without inputs. */
    private static void ended(String name, int[] want, int[]... instructions) {
        SymbolBench bench = Op.bench(0, instructions);
        CHECK.due(name + ": run(0)", bench.run(0), want[0]);
        for (int what = 0; what < 5; what++) {
            CHECK.due(name + ": ran(" + what + ")", bench.ran(what), want[what]);
        }
        CHECK.due(name + ": ran(5)", bench.ran(5), -1);
        CHECK.due(name + ": explore()", bench.explore(), 1);
        CHECK.due(name + ": ran(5) behind explore()", bench.ran(5), 0);
        CHECK.due(name + ": path(0, 0)", bench.path(0, 0), want[0]);
        CHECK.due(name + ": path(0, 1)", bench.path(0, 1), want[1]);
        CHECK.due(name + ": path(0, 2)", bench.path(0, 2), want[4]);
        CHECK.due(name + ": path(0, 4)", bench.path(0, 4), want[2]);
        CHECK.due(name + ": count(5)", bench.count(5), want[3]);
    }

    private static void ends() {
        int[] seven = Op.i(Op.CONST, 1, 7);
        int[] minus = Op.i(Op.CONST, 2, -1);
        int[] eight = Op.i(Op.CONST, 3, 8);
        ended("no program", new int[] {0, 0, 0, 0, 0});
        ended("HALT", new int[] {0, 1, 7, 2, 0}, seven, Op.i(Op.HALT, 1), Op.i(Op.FAIL, 1));
        ended("behind the last", new int[] {0, 1, 0, 1, 0}, seven);
        ended("FAIL 0", new int[] {4, 1, 0, 2, 0}, seven, Op.i(Op.FAIL, 0));
        ended("FAIL 255", new int[] {4, 0, 255, 1, 0}, Op.i(Op.FAIL, 255), seven);
        ended("ASSERT 0", new int[] {3, 1, 0, 2, 1}, seven, Op.i(Op.ASSERT, 0), Op.i(Op.HALT, 1));
        ended("ASSERT 7", new int[] {0, 2, 7, 3, 1}, seven, Op.i(Op.ASSERT, 1), Op.i(Op.HALT, 1));
        ended("JUMP", new int[] {0, 3, 7, 3, 0}, seven, Op.i(Op.JUMP, 3), Op.i(Op.FAIL, 1), Op.i(Op.HALT, 1));
        ended("JUMP behind", new int[] {0, 3, 0, 2, 0}, seven, Op.i(Op.JUMP, 3), Op.i(Op.HALT, 1));
        ended("JUMP far behind", new int[] {0, 3, 0, 2, 0}, seven, Op.i(Op.JUMP, 60), Op.i(Op.HALT, 1));
        ended("IF goes", new int[] {0, 3, 0, 2, 1}, seven, Op.i(Op.IF, 1, 50), Op.i(Op.HALT, 1));
        ended("IF stays", new int[] {0, 2, 7, 3, 1}, seven, Op.i(Op.IF, 0, 50), Op.i(Op.HALT, 1));
        ended("LOAD of 8", new int[] {2, 1, 0, 2, 1}, eight, Op.i(Op.LOAD, 1, 3), Op.i(Op.HALT, 1));
        ended("LOAD of -1", new int[] {2, 1, 0, 2, 1}, minus, Op.i(Op.LOAD, 1, 2), Op.i(Op.HALT, 1));
        ended("LOAD of 7", new int[] {0, 2, 7, 3, 1}, seven, Op.i(Op.LOAD, 2, 1), Op.i(Op.HALT, 1));
        ended("STORE at 8", new int[] {2, 1, 0, 2, 1}, eight, Op.i(Op.STORE, 3, 3), Op.i(Op.HALT, 3));
        ended("STORE at -1", new int[] {2, 1, 0, 2, 1}, minus, Op.i(Op.STORE, 2, 2), Op.i(Op.HALT, 2));
        for (int number = Op.UDIV; number <= Op.SREM; number++) {
            ended(number + " by 0", new int[] {1, 1, 0, 2, 1}, seven, Op.i(number, 1, 1, 0), Op.i(Op.HALT, 1));
        }
    }

    private static void failuresWriteNothing() {
        for (int number = Op.UDIV; number <= Op.SREM; number++) {
            SymbolBench bench = Op.bench(0, Op.i(Op.CONST, 1, 7), Op.i(Op.CONST, 2, 9), Op.i(number, 1, 2, 0));
            bench.run(0);
            CHECK.due("register of a division by 0", bench.register(1), 7);
        }
        SymbolBench load = Op.bench(0, Op.i(Op.CONST, 1, 8), Op.i(Op.LOAD, 1, 1));
        load.run(0);
        CHECK.due("register of a LOAD of 8", load.register(1), 8);
    }
}
