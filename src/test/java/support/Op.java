/** The instructions' numbers, and programs told in one go. */
final class Op {
    static final int CONST = 0, INPUT = 1, COPY = 2, ADD = 3, SUB = 4, MUL = 5, AND = 6, OR = 7, XOR = 8;
    static final int SHL = 9, SHR = 10, SAR = 11, UDIV = 12, UREM = 13, SDIV = 14, SREM = 15;
    static final int EQ = 16, NE = 17, ULT = 18, ULE = 19, SLT = 20, SLE = 21, NOT = 22, NEG = 23, SELECT = 24;
    static final int LOAD = 25, STORE = 26, IF = 27, JUMP = 28, ASSERT = 29, FAIL = 30, HALT = 31;
    static final int NONE = -1;

    private Op() {
    }

    /** One instruction: its number and what stands behind it. */
    static int[] i(int... words) {
        return words;
    }

    /** Tells instructions; what one does not have is filled with a word that no instruction could take. */
    static void tell(SymbolBench bench, int[]... instructions) {
        for (int[] words : instructions) {
            bench.tell(words[0], word(words, 1), word(words, 2), word(words, 3));
        }
    }

    /** A bench with one unsigned input of so many bits (none for 0) and a program. */
    static SymbolBench bench(int bits, int[]... instructions) {
        SymbolBench bench = new SymbolBench();
        if (bits > 0) {
            bench.input(bits, false);
        }
        tell(bench, instructions);
        return bench;
    }

    private static int word(int[] words, int at) {
        return at < words.length ? words[at] : -77;
    }
}
