import java.util.Random;

/** Rows of at most 512 calls, made by a seed, that SymbolBench and the model must answer alike. */
public final class OracleTest {
    private static final int ROWS = 4000;
    private static final int CALLS = 512;
    private static final int[] VALUES = {0, 1, 2, 3, 4, 5, 7, 8, 9, 15, 16, 31, 32, 33, 60, 61, 100, 255, 256, 4095,
        4096, -1, -2, -8, -100, Integer.MIN_VALUE, Integer.MIN_VALUE + 1, Integer.MAX_VALUE};
    private static final Check CHECK = new Check();
    private static int explored;
    private static int manyPaths;
    private static int tooMany;
    private static int manyFailures;

    private final Random random;
    private final String name;
    private final SymbolBench bench = new SymbolBench();
    private final Model model = new Model();
    private int calls;

    private OracleTest(int seed) {
        random = new Random(seed);
        name = "row " + seed + ": ";
    }

    public static void main(String[] args) {
        for (int seed = 0; seed < ROWS && !CHECK.hasFailed(); seed++) {
            new OracleTest(seed).go();
        }
        System.out.println("explored " + explored + " times: " + manyPaths + " with 5 paths or more, " + tooMany
            + " with too many, " + manyFailures + " with 2 failures or more");
        // A generator that made only dull programs would let everything pass.
        CHECK.isTrue("the programs have many paths", CHECK.hasFailed() || manyPaths > explored / 10);
        CHECK.isTrue("some have too many", CHECK.hasFailed() || tooMany > 10);
        CHECK.isTrue("they have failures", CHECK.hasFailed() || manyFailures > explored / 20);
        CHECK.finish();
    }

    private void go() {
        while (calls < CALLS) {
            if (random.nextInt(3) > 0) {
                due("clear()", bench.clear(), model.clear());
            }
            build();
            int questions = 40 + random.nextInt(200);
            for (int k = 0; k < questions; k++) {
                ask();
            }
        }
    }

    /** One call and its answer; calls past the last that is promised are made but not looked at. */
    private void due(String call, int got, int want) {
        calls++;
        if (calls <= CALLS) {
            CHECK.due(name + call, got, want);
        }
    }

    private int below(int bound) {
        return random.nextInt(bound);
    }

    private int anyValue() {
        return below(20) == 0 ? random.nextInt() : VALUES[below(VALUES.length)];
    }

    /** Mostly a small number below the bound, now and then any value. */
    private int near(int bound) {
        return below(12) == 0 ? anyValue() : below(Math.max(1, bound));
    }

    private void build() {
        int inputs = below(6) == 0 ? 0 : 1 + below(4);
        int mostBits = below(8) == 0 ? 13 : 4;
        for (int k = 0; k < inputs; k++) {
            oneInput(mostBits);
        }
        int registers = 2 + below(6);
        for (int k = 0; k < inputs; k++) {
            oneInstruction(Op.INPUT, k % registers, k, 0);
        }
        oneInstruction(Op.CONST, registers - 1, 1 + below(9), 0);
        int size = below(10) == 0 ? 62 : below(30);
        int oneFreshIn = 1 + below(6);
        for (int k = 0; k < size; k++) {
            if (below(oneFreshIn) == 0) {
                freshDecision(registers);
            } else {
                anyInstruction(registers);
            }
        }
        if (below(4) > 0) {
            oneInstruction(Op.HALT, below(registers), 0, 0);
        }
        explore();
    }

    private void explore() {
        due("explore()", bench.explore(), model.explore());
        explored++;
        manyPaths += model.count(3) >= 5 ? 1 : 0;
        tooMany += model.count(3) == -1 ? 1 : 0;
        manyFailures += model.count(4) >= 2 ? 1 : 0;
    }

    private void oneInput(int mostBits) {
        int bits = below(15) == 0 ? anyValue() : 1 + below(mostBits);
        boolean signed = random.nextBoolean();
        due("input(" + bits + ", " + signed + ")", bench.input(bits, signed), model.input(bits, signed));
    }

    private void oneInstruction(int number, int a, int b, int c) {
        String call = "tell(" + number + ", " + a + ", " + b + ", " + c + ")";
        due(call, bench.tell(number, a, b, c), model.tell(number, a, b, c));
    }

    /** An input against a small number, and a decision on that: decisions on old registers seldom part the inputs. */
    private void freshDecision(int registers) {
        int[] comparing = {Op.AND, Op.AND, Op.SUB, Op.ULT, Op.SLT, Op.EQ, Op.XOR, Op.SHR};
        int[] deciding = {Op.IF, Op.IF, Op.IF, Op.IF, Op.IF, Op.IF, Op.IF, Op.IF, Op.ASSERT, Op.LOAD, Op.STORE, Op.SDIV, Op.UREM};
        int tested = below(registers);
        int number = deciding[below(deciding.length)];
        oneInstruction(Op.INPUT, tested, near(model.count(0)), 0);
        oneInstruction(Op.CONST, 15, 1 << below(4), 0);
        oneInstruction(comparing[below(comparing.length)], tested, tested, 15);
        if (number == Op.IF) {
            oneInstruction(number, tested, model.count(2) + 1 + below(3), 0);
        } else {
            int other = below(registers);
            boolean testsFirst = number == Op.ASSERT || number == Op.STORE;
            oneInstruction(number, testsFirst ? tested : other, testsFirst ? other : tested, tested);
        }
    }

    /** What ends most programs early comes seldom, decisions that go on come often. */
    private int anyNumber() {
        int number = below(60) == 0 ? anyValue() : below(32);
        boolean endsEarly = number >= Op.ASSERT || number == Op.LOAD || number == Op.STORE || number == Op.JUMP
            || number >= Op.UDIV && number <= Op.SREM;
        if (endsEarly && below(3) > 0) {
            return below(3) == 0 ? Op.INPUT : Op.IF;
        }
        return number;
    }

    private void anyInstruction(int registers) {
        int number = anyNumber();
        int target = model.count(2) + 1 + (below(8) == 0 ? below(10) : below(3));
        int a = below(40) == 0 ? anyValue() : below(registers);
        int b = below(40) == 0 ? anyValue() : below(registers);
        int c = below(40) == 0 ? anyValue() : below(registers);
        if (number == Op.CONST) {
            b = anyValue();
        } else if (number == Op.INPUT) {
            b = near(model.count(0));
        } else if (number == Op.IF && below(20) > 0) {
            b = target;
        } else if (number == Op.JUMP && below(20) > 0) {
            a = target;
        } else if (number == Op.FAIL) {
            a = below(258) - 1;
        }
        oneInstruction(number, a, b, c);
    }

    private void ask() {
        int i = near(model.count(3) + 1);
        int what = near(7);
        int word = near(1 << model.count(1));
        int v = below(3) == 0 ? anyValue() : model.value(i, word);
        switch (below(24)) {
            case 0: case 1: case 2: case 3:
                due("path(" + i + ", " + what + ")", bench.path(i, what), model.path(i, what)); break;
            case 4: case 5:
                int j = near(8);
                due("decision(" + i + ", " + j + ")", bench.decision(i, j), model.decision(i, j)); break;
            case 6: case 7:
                due("holds(" + i + ", " + word + ")", bench.holds(i, word), model.holds(i, word)); break;
            case 8: case 9: case 10:
                due("value(" + i + ", " + word + ")", bench.value(i, word), model.value(i, word)); break;
            case 11: case 12: case 13:
                what = near(5);
                due("find(" + i + ", " + what + ", " + v + ")", bench.find(i, what, v), model.find(i, what, v)); break;
            case 14: case 15:
                due("run(" + word + ")", bench.run(word), model.run(word)); break;
            default: askMore(what); break;
        }
    }

    private void askMore(int what) {
        int k = near(18);
        switch (below(20)) {
            case 0: case 1: case 2: case 3:
                due("ran(" + what + ")", bench.ran(what), model.ran(what)); break;
            case 4: case 5: case 6:
                due("register(" + k + ")", bench.register(k), model.register(k)); break;
            case 7: case 8:
                due("cell(" + k + ")", bench.cell(k), model.cell(k)); break;
            case 9: case 10: case 11:
                int failure = near(model.count(4) + 1);
                int part = near(4);
                due("failure(" + failure + ", " + part + ")", bench.failure(failure, part),
                    model.failure(failure, part));
                break;
            case 12: case 13: case 14:
                int place = near(model.count(2) + 2);
                due("covered(" + place + ")", bench.covered(place), model.covered(place)); break;
            case 15: case 16:
                due("count(" + what + ")", bench.count(what), model.count(what)); break;
            case 17: change(); break;
            default: due("ran(5)", bench.ran(5), model.ran(5)); break;
        }
    }

    /** Seldom, and followed by exploring anew, or not. */
    private void change() {
        switch (below(6)) {
            case 0: oneInput(3); break;
            case 1: anyInstruction(6); break;
            case 2: due("clear()", bench.clear(), model.clear()); break;
            default: break;
        }
        if (below(4) > 0) {
            explore();
        }
    }
}
