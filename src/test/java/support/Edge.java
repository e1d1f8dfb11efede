/** Numbers at which something turns, and programs that bring them there. */
final class Edge {
    static final int LEAST = Integer.MIN_VALUE;
    static final int MOST = Integer.MAX_VALUE;
    /** Where 32 bits turn, with and without sign, and the neighbours. */
    static final int[] VALUES = {LEAST, LEAST + 1, -2, -1, 0, 1, 2, MOST - 1, MOST};

    private Edge() {
    }

    /** A bench without inputs: register 1 is x, register 2 is y, and then the instructions. */
    static SymbolBench given(int x, int y, int[]... instructions) {
        SymbolBench bench = Op.bench(0, Op.i(Op.CONST, 1, x), Op.i(Op.CONST, 2, y));
        Op.tell(bench, instructions);
        return bench;
    }

    /** A bench with so many instructions that do nothing to be seen. */
    static SymbolBench idle(int size) {
        SymbolBench bench = new SymbolBench();
        fill(bench, size);
        return bench;
    }

    /** Tells instructions that do nothing to be seen until there are so many. */
    static void fill(SymbolBench bench, int size) {
        for (int place = bench.count(2); place < size; place++) {
            bench.tell(Op.COPY, 15, 15, 0);
        }
    }

    /** The words of so many bits that lie at their ends, and what lies beside them. */
    static int[] wordsAround(int bits) {
        int words = 1 << bits;
        return new int[] {LEAST, -words, -1, 0, words - 1, words, words + 1, MOST};
    }

    static boolean isWord(int word, int bits) {
        return word >= 0 && word < 1 << bits;
    }

    static long unsigned(int value) {
        return Integer.toUnsignedLong(value);
    }
}
