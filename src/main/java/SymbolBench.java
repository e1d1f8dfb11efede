import java.util.Arrays;

/**
 * A bench for loop-free programs over 32-bit values: it finds all their paths, each with the inputs that go it and
 * what comes out, and replays single inputs.
 *
 * <p>All inputs together have 12 bits at most, so every question is answered by running all the input words that there
 * are: 4096 short runs at the most, whose outcomes are kept until the program or its inputs change.
 */
public final class SymbolBench {
    public static final int NONE = -1;

    private static final int MOST_INPUTS = 4;
    private static final int MOST_BITS = 12;
    private static final int MOST_WORDS = 1 << MOST_BITS;
    private static final int MOST_INSTRUCTIONS = 60;
    private static final int MOST_MULTIPLICATIONS = 6;
    private static final int MOST_DIVISIONS = 6;
    private static final int MOST_PATHS = 40;
    private static final int REGISTERS = 16;
    private static final int CELLS = 8;
    private static final int HIGHEST_FAIL = 255;
    private static final long LOW_32_BITS = 0xFFFFFFFFL;

    private static final int CONST = 0;
    private static final int INPUT = 1;
    private static final int COPY = 2;
    private static final int ADD = 3;
    private static final int SUB = 4;
    private static final int MUL = 5;
    private static final int AND = 6;
    private static final int OR = 7;
    private static final int XOR = 8;
    private static final int SHL = 9;
    private static final int SHR = 10;
    private static final int SAR = 11;
    private static final int UDIV = 12;
    private static final int UREM = 13;
    private static final int SDIV = 14;
    private static final int SREM = 15;
    private static final int EQ = 16;
    private static final int NE = 17;
    private static final int ULT = 18;
    private static final int ULE = 19;
    private static final int SLT = 20;
    private static final int SLE = 21;
    private static final int NOT = 22;
    private static final int NEG = 23;
    private static final int SELECT = 24;
    private static final int LOAD = 25;
    private static final int STORE = 26;
    private static final int IF = 27;
    private static final int JUMP = 28;
    private static final int ASSERT = 29;
    private static final int FAIL = 30;
    private static final int HALT = 31;

    private static final int END_HALT = 0;
    private static final int END_DIVISION = 1;
    private static final int END_PLACE = 2;
    private static final int END_ASSERT = 3;
    private static final int END_FAIL = 4;

    private final Program program;
    private final Atlas atlas;
    /** Runs what explore() and value() ask for, so that the latest run() stays as it was left. */
    private final Machine prober;
    private final Machine runner;
    private boolean hasRun;
    private boolean changedSinceRun;

    public SymbolBench() {
        program = new Program();
        atlas = new Atlas();
        prober = new Machine();
        runner = new Machine();
    }

    public int input(int bits, boolean signed) {
        int number = program.addInput(bits, signed);
        if (number != NONE) {
            forgetFindings();
        }
        return number;
    }

    public int tell(int number, int a, int b, int c) {
        int place = program.addInstruction(number, a, b, c);
        if (place != NONE) {
            forgetFindings();
        }
        return place;
    }

    public int clear() {
        int size = program.size;
        program.empty();
        forgetFindings();
        hasRun = false;
        return size;
    }

    public int explore() {
        if (!atlas.isKnown()) {
            atlas.survey(program, prober);
        }
        return atlas.knownOrNone(atlas.size);
    }

    public int path(int i, int what) {
        Path path = atlas.pathAt(i);
        if (path == null) {
            return NONE;
        }
        switch (what) {
            case 0: return path.end;
            case 1: return path.endPlace;
            case 2: return Long.bitCount(path.decided);
            case 3: return path.leastWord;
            case 4: return path.result;
            case 5: return path.alwaysSameResult ? 1 : 0;
            default: return 0;
        }
    }

    public int decision(int i, int j) {
        Path path = atlas.pathAt(i);
        if (path == null) {
            return NONE;
        }
        int place = placeOfMark(path.decided, j);
        if (place == NONE) {
            return NONE;
        }
        return 2 * place + (isMarked(path.ones, place) ? 1 : 0);
    }

    public int holds(int i, int word) {
        Path path = atlas.pathAt(i);
        if (path == null || !program.hasWord(word)) {
            return NONE;
        }
        return atlas.goes(path, word) ? 1 : 0;
    }

    public int value(int i, int word) {
        Path path = atlas.pathAt(i);
        if (path == null || !program.hasWord(word)) {
            return 0;
        }
        prober.execute(program, word, path);
        return prober.result;
    }

    public int find(int i, int what, int v) {
        Path path = atlas.pathAt(i);
        if (path == null) {
            return NONE;
        }
        return atlas.leastWordWith(path, what, v, program.words());
    }

    public int run(int word) {
        if (!program.hasWord(word)) {
            return NONE;
        }
        runner.execute(program, word, null);
        hasRun = true;
        changedSinceRun = false;
        return runner.end;
    }

    public int ran(int what) {
        if (!hasRun) {
            return NONE;
        }
        switch (what) {
            case 0: return runner.end;
            case 1: return runner.place;
            case 2: return runner.result;
            case 3: return Long.bitCount(runner.visited);
            case 4: return Long.bitCount(runner.decided);
            case 5: return changedSinceRun ? NONE : atlas.numberOf(runner.ones);
            default: return NONE;
        }
    }

    public int register(int k) {
        return hasRun && isRegister(k) ? runner.registers[k] : 0;
    }

    public int cell(int k) {
        return hasRun && isCell(k) ? runner.cells[k] : 0;
    }

    public int failure(int k, int what) {
        Path first = atlas.firstFailing(k);
        if (first == null) {
            return NONE;
        }
        switch (what) {
            case 0: return first.end;
            case 1: return first.endPlace;
            case 2: return first.leastWord;
            default: return NONE;
        }
    }

    public int covered(int place) {
        if (place < 0 || place >= program.size || !atlas.isKnown()) {
            return NONE;
        }
        return isMarked(atlas.visited, place) ? 1 : 0;
    }

    public int count(int what) {
        switch (what) {
            case 0: return program.inputs;
            case 1: return program.bits;
            case 2: return program.size;
            case 3: return atlas.knownOrNone(atlas.size);
            case 4: return atlas.knownOrNone(Long.bitCount(atlas.failed));
            case 5: return atlas.knownOrNone(Long.bitCount(atlas.visited));
            default: return NONE;
        }
    }

    private void forgetFindings() {
        atlas.forget();
        changedSinceRun = true;
    }

    /**
     * A set of places is a long with one mark a place, which is enough for a row of decisions too: targets lie ahead,
     * so no instruction is come to twice. Place 0 has the highest mark, below the sign: of two rows of decisions the
     * one that is 1 where they first differ is then the greater number.
     */
    private static long mark(int place) {
        return 1L << (MOST_INSTRUCTIONS - 1 - place);
    }

    private static boolean isMarked(long marks, int place) {
        return (marks & mark(place)) != 0;
    }

    /** The place of the n-th mark, counted from 0, or NONE. */
    private static int placeOfMark(long marks, int n) {
        int before = 0;
        for (int place = 0; place < MOST_INSTRUCTIONS; place++) {
            if (isMarked(marks, place)) {
                if (before == n) {
                    return place;
                }
                before++;
            }
        }
        return NONE;
    }

    private static boolean isBelowUnsigned(int x, int y) {
        return (x & LOW_32_BITS) < (y & LOW_32_BITS);
    }

    /** The result of an instruction of two operands that is no division; Java's shifts go by five bits too. */
    private static int combine(int number, int x, int y) {
        switch (number) {
            case ADD: return x + y;
            case SUB: return x - y;
            case MUL: return x * y;
            case AND: return x & y;
            case OR: return x | y;
            case XOR: return x ^ y;
            case SHL: return x << y;
            case SHR: return x >>> y;
            case SAR: return x >> y;
            case EQ: return x == y ? 1 : 0;
            case NE: return x != y ? 1 : 0;
            case ULT: return isBelowUnsigned(x, y) ? 1 : 0;
            case ULE: return isBelowUnsigned(y, x) ? 0 : 1;
            case SLT: return x < y ? 1 : 0;
            case SLE: return x <= y ? 1 : 0;
            default: return 0;
        }
    }

    /** A division's result, also by 0: value() goes on there along a path that has no such division. */
    private static int divide(int number, int x, int y) {
        boolean wantsRest = number == UREM || number == SREM;
        if (y == 0) {
            return wantsRest ? x : -1;
        }
        if (number == SDIV || number == SREM) {
            return wantsRest ? x % y : x / y;
        }
        long dividend = x & LOW_32_BITS;
        long divisor = y & LOW_32_BITS;
        return (int) (wantsRest ? dividend % divisor : dividend / divisor);
    }

    private static boolean isDivision(int number) {
        return number >= UDIV && number <= SREM;
    }

    private static boolean isRegister(int k) {
        return k >= 0 && k < REGISTERS;
    }

    private static boolean isCell(int number) {
        return number >= 0 && number < CELLS;
    }

    /** The inputs and instructions that came; what it takes in is checked, so a machine need not look again. */
    private static final class Program {
        private final int[] widths = new int[MOST_INPUTS];
        /** How many bits there are from the first input to the end of each one: later inputs don't change it. */
        private final int[] reaches = new int[MOST_INPUTS];
        private final boolean[] signs = new boolean[MOST_INPUTS];
        private int inputs;
        private int bits;

        private final int[] numbers = new int[MOST_INSTRUCTIONS];
        private final int[] firsts = new int[MOST_INSTRUCTIONS];
        private final int[] seconds = new int[MOST_INSTRUCTIONS];
        private final int[] thirds = new int[MOST_INSTRUCTIONS];
        private int size;
        private int multiplications;
        private int divisions;

        void empty() {
            inputs = 0;
            bits = 0;
            size = 0;
            multiplications = 0;
            divisions = 0;
        }

        int addInput(int width, boolean signed) {
            if (inputs >= MOST_INPUTS || width < 1 || width > MOST_BITS - bits) {
                return NONE;
            }
            bits += width;
            widths[inputs] = width;
            reaches[inputs] = bits;
            signs[inputs] = signed;
            inputs++;
            return inputs - 1;
        }

        int addInstruction(int number, int a, int b, int c) {
            if (size >= MOST_INSTRUCTIONS || !fits(number, a, b, c) || wouldBeTooMany(number)) {
                return NONE;
            }
            numbers[size] = number;
            firsts[size] = a;
            seconds[size] = b;
            thirds[size] = c;
            multiplications += number == MUL ? 1 : 0;
            divisions += isDivision(number) ? 1 : 0;
            size++;
            return size - 1;
        }

        private boolean fits(int number, int a, int b, int c) {
            switch (number) {
                case CONST: case ASSERT: case HALT:
                    return isRegister(a);
                case INPUT:
                    return isRegister(a) && b >= 0 && b < inputs;
                case COPY: case NOT: case NEG: case LOAD: case STORE:
                    return isRegister(a) && isRegister(b);
                case IF:
                    return isRegister(a) && isTarget(b);
                case JUMP:
                    return isTarget(a);
                case FAIL:
                    return a >= 0 && a <= HIGHEST_FAIL;
                default:
                    return takesThreeRegisters(number) && isRegister(a) && isRegister(b) && isRegister(c);
            }
        }

        private static boolean takesThreeRegisters(int number) {
            return number >= ADD && number <= SLE || number == SELECT;
        }

        /** Whether the instruction that comes next could go there. */
        private boolean isTarget(int place) {
            return place > size && place <= MOST_INSTRUCTIONS;
        }

        private boolean wouldBeTooMany(int number) {
            return number == MUL && multiplications >= MOST_MULTIPLICATIONS
                || isDivision(number) && divisions >= MOST_DIVISIONS;
        }

        int words() {
            return 1 << bits;
        }

        boolean hasWord(int word) {
            return word >= 0 && word < words();
        }

        int inputIn(int word, int k) {
            int unused = 32 - widths[k];
            int atTheTop = word >> (bits - reaches[k]) << unused;
            return signs[k] ? atTheTop >> unused : atTheTop >>> unused;
        }
    }

    /** One run of a program, and what it left. */
    private static final class Machine {
        private final int[] registers = new int[REGISTERS];
        private final int[] cells = new int[CELLS];
        private boolean isGuided;
        private long guidingOnes;
        /** The place of the instruction that is done; behind the end, the one that ended the run. */
        private int place;
        private long placeMark;
        private long visited;
        private long decided;
        private long ones;
        private boolean hasEnded;
        private int end;
        private int result;

        /** Runs the program for a word; a path, if one is given, makes the decisions in place of the values. */
        void execute(Program program, int word, Path guide) {
            begin(guide);
            int next = 0;
            for (int done = 0; done < MOST_INSTRUCTIONS && next < program.size && !hasEnded; done++) {
                place = next;
                placeMark = mark(place);
                visited |= placeMark;
                next = step(program, word);
            }
            if (!hasEnded) {
                place = program.size;
                stop(END_HALT, 0);
            }
        }

        private void begin(Path guide) {
            Arrays.fill(registers, 0);
            Arrays.fill(cells, 0);
            isGuided = guide != null;
            guidingOnes = guide != null ? guide.ones : 0;
            visited = 0;
            decided = 0;
            ones = 0;
            hasEnded = false;
        }

        private void stop(int how, int outcome) {
            hasEnded = true;
            end = how;
            result = outcome;
        }

        private boolean decide(boolean isSo) {
            boolean isOne = isGuided ? (guidingOnes & placeMark) != 0 : isSo;
            decided |= placeMark;
            if (isOne) {
                ones |= placeMark;
            }
            return isOne;
        }

        /** Does the instruction at the place and tells the place of the next. */
        private int step(Program program, int word) {
            int number = program.numbers[place];
            int a = program.firsts[place];
            int b = program.seconds[place];
            switch (number) {
                case CONST: registers[a] = b; break;
                case INPUT: registers[a] = program.inputIn(word, b); break;
                case COPY: registers[a] = registers[b]; break;
                case NOT: registers[a] = ~registers[b]; break;
                case NEG: registers[a] = -registers[b]; break;
                case LOAD: load(a, registers[b]); break;
                case STORE: store(registers[a], registers[b]); break;
                case IF: return decide(registers[a] != 0) ? b : place + 1;
                case JUMP: return a;
                case ASSERT: stopUnlessTrue(registers[a]); break;
                case FAIL: stop(END_FAIL, a); break;
                case HALT: stop(END_HALT, registers[a]); break;
                default: calculate(number, a, registers[b], registers[program.thirds[place]]); break;
            }
            return place + 1;
        }

        private void calculate(int number, int target, int x, int y) {
            if (isDivision(number)) {
                if (decide(y != 0)) {
                    registers[target] = divide(number, x, y);
                } else {
                    stop(END_DIVISION, 0);
                }
            } else if (number != SELECT) {
                registers[target] = combine(number, x, y);
            } else if (x != 0) {
                registers[target] = y;
            }
        }

        /** A guide can lead past a number that is no cell's, so the number is looked at whatever was decided. */
        private void load(int target, int number) {
            if (decide(isCell(number))) {
                registers[target] = isCell(number) ? cells[number] : 0;
            } else {
                stop(END_PLACE, 0);
            }
        }

        private void store(int number, int stored) {
            if (!decide(isCell(number))) {
                stop(END_PLACE, 0);
            } else if (isCell(number)) {
                cells[number] = stored;
            }
        }

        private void stopUnlessTrue(int asserted) {
            if (!decide(asserted != 0)) {
                stop(END_ASSERT, 0);
            }
        }
    }

    /** One row of decisions, told by the places where there was one and where it was 1, and how it ends. */
    private static final class Path {
        private long decided;
        private long ones;
        private int end;
        private int endPlace;
        private int leastWord;
        private int result;
        private boolean alwaysSameResult;

        void take(Machine machine, int word) {
            decided = machine.decided;
            ones = machine.ones;
            end = machine.end;
            endPlace = machine.place;
            leastWord = word;
            result = machine.result;
            alwaysSameResult = true;
        }
    }

    /** The paths that explore() found, in their order, and the path and result of each input word. */
    private static final class Atlas {
        /** All are made once; those from size on are spare. */
        private final Path[] paths = new Path[MOST_PATHS];
        private final long[] onesOfWord = new long[MOST_WORDS];
        private final int[] resultOfWord = new int[MOST_WORDS];
        private int size;
        private long visited;
        private long failed;

        Atlas() {
            for (int i = 0; i < MOST_PATHS; i++) {
                paths[i] = new Path();
            }
        }

        void forget() {
            size = 0;
            visited = 0;
            failed = 0;
        }

        /** There is always an input word, so what has been explored has a path. */
        boolean isKnown() {
            return size > 0;
        }

        int knownOrNone(int answer) {
            return isKnown() ? answer : NONE;
        }

        Path pathAt(int i) {
            return i >= 0 && i < size ? paths[i] : null;
        }

        /** Runs every input word; nothing is known afterwards if there are too many paths. */
        void survey(Program program, Machine machine) {
            forget();
            int words = program.words();
            for (int word = 0; word < words; word++) {
                machine.execute(program, word, null);
                if (!enter(machine, word)) {
                    forget();
                    return;
                }
            }
        }

        /** Enters a finished run; false if it goes one path too many. */
        private boolean enter(Machine machine, int word) {
            int i = firstNotAheadOf(machine.ones);
            if (i < size && paths[i].ones == machine.ones) {
                paths[i].alwaysSameResult &= paths[i].result == machine.result;
            } else if (size < MOST_PATHS) {
                insertAt(i).take(machine, word);
                visited |= machine.visited;
                failed |= machine.end == END_HALT ? 0 : mark(machine.place);
            } else {
                return false;
            }
            onesOfWord[word] = machine.ones;
            resultOfWord[word] = machine.result;
            return true;
        }

        private int firstNotAheadOf(long ones) {
            for (int i = 0; i < size; i++) {
                if (paths[i].ones <= ones) {
                    return i;
                }
            }
            return size;
        }

        /** Makes room for one path more; there must be a spare one. */
        private Path insertAt(int i) {
            Path spare = paths[size];
            for (int k = size; k > i; k--) {
                paths[k] = paths[k - 1];
            }
            paths[i] = spare;
            size++;
            return spare;
        }

        int numberOf(long ones) {
            int i = firstNotAheadOf(ones);
            return i < size && paths[i].ones == ones ? i : NONE;
        }

        boolean goes(Path path, int word) {
            return onesOfWord[word] == path.ones;
        }

        int leastWordWith(Path path, int what, int v, int words) {
            for (int word = path.leastWord; word < words; word++) {
                if (goes(path, word) && isWanted(resultOfWord[word], what, v)) {
                    return word;
                }
            }
            return NONE;
        }

        private static boolean isWanted(int result, int what, int v) {
            switch (what) {
                case 0: return result == v;
                case 1: return result != v;
                case 2: return isBelowUnsigned(result, v);
                case 3: return result < v;
                default: return false;
            }
        }

        /** The path of the least input word that comes to the k-th failure, or null. */
        Path firstFailing(int k) {
            int place = placeOfMark(failed, k);
            Path first = null;
            for (int i = 0; i < size; i++) {
                Path path = paths[i];
                boolean failsThere = path.end != END_HALT && path.endPlace == place;
                if (failsThere && (first == null || path.leastWord < first.leastWord)) {
                    first = path;
                }
            }
            return first;
        }
    }
}
