import java.util.ArrayList;
import java.util.List;
import java.util.function.Supplier;
import java.util.function.ToIntFunction;

/**
 * A refused call changes nothing: of two benches that were brought to the same state one makes the call, and from then
 * on both must answer alike, to all that can be asked (Promises 2, 3 and 11: "NONE, and none comes", "doing nothing").
 * The calls that only ask change nothing either.
 */
public final class RefusalsTest {
    private static final Check CHECK = new Check();

    private static final class State {
        final String name;
        final Supplier<SymbolBench> maker;
        final List<List<Integer>> views = new ArrayList<>();

        State(String name, Supplier<SymbolBench> maker) {
            this.name = name;
            this.maker = maker;
            for (int view = 0; view < Views.COUNT; view++) {
                views.add(Views.of(maker.get(), view));
            }
        }
    }

    public static void main(String[] args) {
        List<State> states = states();
        for (State state : states) {
            inputsRefusedAlways(state);
            instructionsRefusedAlways(state);
            runsRefusedAlways(state);
            askingChangesNothing(state);
        }
        refusedWhenFull(new State("full", RefusalsTest::full));
        refusedWhenFull(new State("full, not explored", () -> filled(new SymbolBench())));
        refusedByBitsAlone();
        refusedByMultiplicationsAlone();
        refusedByDivisionsAlone();
        CHECK.finish();
    }

    // The states

    private static List<State> states() {
        List<State> states = new ArrayList<>();
        states.add(new State("new", SymbolBench::new));
        states.add(new State("nothing, explored and run", () -> ranAndExplored(new SymbolBench(), 0)));
        states.add(new State("built", RefusalsTest::built));
        states.add(new State("explored", () -> explored(built())));
        states.add(new State("run", () -> ran(built(), 5)));
        states.add(new State("run, explored", () -> ranAndExplored(built(), 5)));
        states.add(new State("failed, explored", () -> ranAndExplored(built(), 9)));
        states.add(new State("explored, run", () -> ran(explored(built()), 5)));
        states.add(new State("an instruction came", () -> toldSince(false)));
        states.add(new State("an instruction came, explored", () -> toldSince(true)));
        states.add(new State("an input came", () -> givenSince(false)));
        states.add(new State("an input came, explored", () -> givenSince(true)));
        states.add(new State("too many paths", RefusalsTest::tooMany));
        states.add(new State("cleared", RefusalsTest::cleared));
        return states;
    }

    private static SymbolBench built() {
        SymbolBench bench = new SymbolBench();
        bench.input(3, false);
        bench.input(1, true);
        Op.tell(bench, Op.i(Op.INPUT, 0, 0), Op.i(Op.INPUT, 1, 1), Op.i(Op.CONST, 2, 1), Op.i(Op.MUL, 3, 0, 2),
            Op.i(Op.STORE, 3, 0), Op.i(Op.IF, 1, 8), Op.i(Op.UDIV, 4, 3, 0), Op.i(Op.HALT, 3), Op.i(Op.ASSERT, 3),
            Op.i(Op.SUB, 5, 3, 2), Op.i(Op.SREM, 6, 3, 5), Op.i(Op.HALT, 1));
        return bench;
    }

    private static SymbolBench explored(SymbolBench bench) {
        bench.explore();
        return bench;
    }

    private static SymbolBench ran(SymbolBench bench, int word) {
        bench.run(word);
        return bench;
    }

    private static SymbolBench ranAndExplored(SymbolBench bench, int word) {
        return explored(ran(bench, word));
    }

    private static SymbolBench toldSince(boolean explores) {
        SymbolBench bench = ranAndExplored(built(), 5);
        bench.tell(Op.FAIL, 7, 0, 0);
        return explores ? explored(bench) : bench;
    }

    private static SymbolBench givenSince(boolean explores) {
        SymbolBench bench = ranAndExplored(built(), 5);
        bench.input(2, false);
        return explores ? explored(bench) : bench;
    }

    private static SymbolBench tooMany() {
        SymbolBench bench = new SymbolBench();
        bench.input(6, false);
        Op.tell(bench, Op.i(Op.INPUT, 0, 0), Op.i(Op.CONST, 1, 1));
        for (int k = 0; k < 6; k++) {
            Op.tell(bench, Op.i(Op.AND, 2, 0, 1), Op.i(Op.IF, 2, bench.count(2) + 2), Op.i(Op.SHR, 0, 0, 1));
        }
        return ranAndExplored(bench, 63);
    }

    private static SymbolBench cleared() {
        SymbolBench bench = ranAndExplored(built(), 5);
        bench.clear();
        return bench;
    }

    /** Four inputs of twelve bits, sixty instructions, six of them MUL and six divisions. */
    private static SymbolBench filled(SymbolBench bench) {
        for (int k = 0; k < 4; k++) {
            bench.input(3, k % 2 == 0);
            bench.tell(Op.INPUT, k, k, 0);
        }
        for (int k = 0; k < 6; k++) {
            bench.tell(Op.MUL, 4, k % 4, k % 3);
            bench.tell(Op.UDIV + k % 4, 5 + k, 4, 0);
        }
        Edge.fill(bench, 60);
        return bench;
    }

    private static SymbolBench full() {
        return ranAndExplored(filled(new SymbolBench()), 4095);
    }

    // The comparison

    private static void refuses(State state, String name, ToIntFunction<SymbolBench> call) {
        CHECK.due(state.name + ": " + name, call.applyAsInt(state.maker.get()), -1);
        changesNothing(state, name, call);
    }

    private static void changesNothing(State state, String name, ToIntFunction<SymbolBench> call) {
        for (int view = 0; view < Views.COUNT; view++) {
            SymbolBench bench = state.maker.get();
            call.applyAsInt(bench);
            boolean isAlike = Views.of(bench, view).equals(state.views.get(view));
            CHECK.isTrue(state.name + ": view " + view + " is alike behind " + name, isAlike);
        }
    }

    private static void refusesInput(State state, int bits) {
        refuses(state, "input(" + bits + ", false)", bench -> bench.input(bits, false));
        refuses(state, "input(" + bits + ", true)", bench -> bench.input(bits, true));
    }

    private static void refusesTell(State state, int number, int a, int b, int c) {
        String name = "tell(" + number + ", " + a + ", " + b + ", " + c + ")";
        refuses(state, name, bench -> bench.tell(number, a, b, c));
    }

    // What is refused in every state

    private static void inputsRefusedAlways(State state) {
        CHECK.sentence("Promise 2: NONE, and none comes, if the bits are not 1 to 12");
        for (int bits : new int[] {Edge.LEAST, -1, 0, 13, 14, 32, Edge.MOST}) {
            refusesInput(state, bits);
        }
    }

    private static void instructionsRefusedAlways(State state) {
        CHECK.sentence("Promise 3: NONE, and none comes: there is no such instruction, one is no register, INPUT, target, or k");
        for (int number : new int[] {Edge.LEAST, -1, 32, 33, Edge.MOST}) {
            refusesTell(state, number, 0, 0, 0);
        }
        for (int number = 0; number <= 31; number++) {
            if (number != Op.JUMP && number != Op.FAIL) {
                refusesTell(state, number, -1, number == Op.IF ? 60 : 0, 0);
                refusesTell(state, number, 16, number == Op.IF ? 60 : 0, 0);
            }
        }
        for (int number : new int[] {Op.COPY, Op.ADD, Op.MUL, Op.SDIV, Op.SLE, Op.NOT, Op.SELECT, Op.LOAD, Op.STORE}) {
            refusesTell(state, number, 0, -1, 0);
            refusesTell(state, number, 0, 16, 0);
        }
        for (int number : new int[] {Op.ADD, Op.MUL, Op.UDIV, Op.SREM, Op.SLE, Op.SELECT}) {
            refusesTell(state, number, 0, 0, -1);
            refusesTell(state, number, 0, 0, 16);
        }
        wordsRefusedAlways(state);
    }

    private static void wordsRefusedAlways(State state) {
        int size = state.maker.get().count(2);
        int inputs = state.maker.get().count(0);
        for (int target : new int[] {-1, 0, size, 61}) {
            refusesTell(state, Op.IF, 0, target, 0);
            refusesTell(state, Op.JUMP, target, 0, 0);
        }
        for (int k : new int[] {-1, inputs, 4}) {
            refusesTell(state, Op.INPUT, 0, k, 0);
        }
        for (int k : new int[] {-1, 256}) {
            refusesTell(state, Op.FAIL, k, 0, 0);
        }
    }

    private static void runsRefusedAlways(State state) {
        CHECK.sentence("Promise 11: NONE, doing nothing, if it is none");
        int words = 1 << state.maker.get().count(1);
        for (int word : new int[] {Edge.LEAST, -words, -1, words, words + 1, 4096, Edge.MOST}) {
            refuses(state, "run(" + word + ")", bench -> bench.run(word));
        }
    }

    /** All questions, with what is there and what is not. */
    private static void askingChangesNothing(State state) {
        CHECK.sentence("Not promised: Nothing beyond the answers and state changes described above");
        for (int k : new int[] {Edge.LEAST, -1, 0, 1, 2, 5, 7, 16, 40, 60, 4096, Edge.MOST}) {
            changesNothing(state, "questions of " + k, bench -> asked(bench, k));
        }
        boolean isExplored = state.maker.get().count(3) != -1;
        if (isExplored) {
            changesNothing(state, "explore()", SymbolBench::explore);
        }
    }

    private static int asked(SymbolBench bench, int k) {
        int sum = bench.count(k) + bench.ran(k) + bench.register(k) + bench.cell(k) + bench.covered(k);
        for (int i = -1; i <= 3; i++) {
            sum += bench.path(i, k) + bench.path(k, i) + bench.decision(i, k) + bench.decision(k, i);
            sum += bench.holds(i, k) + bench.value(i, k) + bench.holds(k, i) + bench.value(k, i);
            sum += bench.find(i, k, i) + bench.find(i, i, k) + bench.find(k, i, i) + bench.failure(i, k);
        }
        return sum;
    }

    // What is refused because all there may be is there

    private static void refusedWhenFull(State state) {
        CHECK.sentence("Promises 2 and 3: NONE, and none comes, if there are 4; 60 are there");
        for (int bits : new int[] {0, 1, 12, 13}) {
            refusesInput(state, bits);
        }
        for (int number = 0; number <= 31; number++) {
            int first = number == Op.JUMP ? 60 : 0;
            refusesTell(state, number, first, number == Op.IF ? 60 : 0, 0);
        }
        refuses(state, "run(4096)", bench -> bench.run(4096));
        refuses(state, "run(-1)", bench -> bench.run(-1));
    }

    private static void refusedByBitsAlone() {
        CHECK.sentence("Promise 2: NONE, and none comes, if all together would be more than 12");
        for (int bits = 1; bits <= 12; bits++) {
            int there = bits;
            State state = new State(bits + " bits", () -> ranAndExplored(Op.bench(there, Op.i(Op.INPUT, 0, 0)), 1));
            refusesInput(state, 13 - bits);
            refusesInput(state, 12);
        }
        State four = new State("four of one bit", () -> {
            SymbolBench bench = new SymbolBench();
            for (int k = 0; k < 4; k++) {
                bench.input(1, true);
            }
            return ranAndExplored(bench, 15);
        });
        refusesInput(four, 1);
        refusesInput(four, 8);
        refusesInput(four, 9);
    }

    private static State withSix(int number) {
        return new State("six of " + number, () -> {
            SymbolBench bench = new SymbolBench();
            bench.input(2, false);
            bench.tell(Op.INPUT, 0, 0, 0);
            for (int k = 0; k < 6; k++) {
                bench.tell(number, 1 + k, 0, 0);
            }
            return ranAndExplored(bench, 3);
        });
    }

    private static void refusedByMultiplicationsAlone() {
        CHECK.sentence("Promise 3: NONE, and none comes: one more MUL would be too many");
        State state = withSix(Op.MUL);
        refusesTell(state, Op.MUL, 0, 0, 0);
        refusesTell(state, Op.MUL, 15, 15, 15);
    }

    private static void refusedByDivisionsAlone() {
        CHECK.sentence("Promise 3: NONE, and none comes: one more division would be too many");
        for (int there = Op.UDIV; there <= Op.SREM; there++) {
            State state = withSix(there);
            for (int number = Op.UDIV; number <= Op.SREM; number++) {
                refusesTell(state, number, 0, 0, 0);
                refusesTell(state, number, 15, 15, 15);
            }
        }
    }
}
