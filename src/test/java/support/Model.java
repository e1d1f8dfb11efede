import java.util.ArrayList;
import java.util.List;
import java.util.TreeMap;
import java.util.TreeSet;

/**
 * A second bench, written the other way round so that it does not share the first one's faults: it sends the set of
 * all input words down the program, splits it at each decision, and so meets the paths in their order. Values are longs
 * from 0 to 2^32 - 1.
 */
final class Model {
    private static final long ROUND = 1L << 32;

    /** One input word on its way. */
    private static final class Traveller {
        final int word;
        final long[] registers = new long[16];
        final long[] cells = new long[8];
        int done;

        Traveller(int word) {
            this.word = word;
        }
    }

    private static final class Route {
        final List<Integer> decisions = new ArrayList<>();
        final TreeSet<Integer> visited = new TreeSet<>();
        final TreeMap<Integer, Integer> results = new TreeMap<>();
        int end;
        int place;
        Traveller last;

        Route() {
        }

        Route(Route begin, int decision) {
            decisions.addAll(begin.decisions);
            decisions.add(decision);
            visited.addAll(begin.visited);
        }
    }

    private final List<int[]> inputs = new ArrayList<>();
    private final List<int[]> program = new ArrayList<>();
    private List<Route> routes;
    private Route ran;
    private boolean ranIsOld;

    // The face

    int input(int bits, boolean signed) {
        if (inputs.size() == 4 || bits < 1 || bits > 12 || bitsOfAll() + bits > 12) {
            return -1;
        }
        inputs.add(new int[] {bits, signed ? 1 : 0});
        forget();
        return inputs.size() - 1;
    }

    int tell(int number, int a, int b, int c) {
        if (number < 0 || number > 31 || program.size() == 60) {
            return -1;
        }
        int[] words = {a, b, c};
        String form = form(number);
        for (int k = 0; k < form.length(); k++) {
            if (!isOfKind(form.charAt(k), words[k])) {
                return -1;
            }
        }
        if (number == 5 && told(5, 5) == 6 || number >= 12 && number <= 15 && told(12, 15) == 6) {
            return -1;
        }
        program.add(new int[] {number, a, b, c});
        forget();
        return program.size() - 1;
    }

    int clear() {
        int size = program.size();
        inputs.clear();
        program.clear();
        forget();
        ran = null;
        return size;
    }

    int explore() {
        List<Traveller> all = new ArrayList<>();
        for (int word = 0; word < words(); word++) {
            all.add(new Traveller(word));
        }
        routes = new ArrayList<>();
        travel(0, new Route(), all, routes);
        if (routes.size() > 40) {
            routes = null;
            return -1;
        }
        return routes.size();
    }

    int path(int i, int what) {
        if (!isRoute(i)) {
            return -1;
        }
        Route route = routes.get(i);
        switch (what) {
            case 0: return route.end;
            case 1: return route.place;
            case 2: return route.decisions.size();
            case 3: return route.results.firstKey();
            case 4: return route.results.firstEntry().getValue();
            case 5: return new TreeSet<>(route.results.values()).size() == 1 ? 1 : 0;
            default: return 0;
        }
    }

    int decision(int i, int j) {
        boolean isThere = isRoute(i) && j >= 0 && j < routes.get(i).decisions.size();
        return isThere ? routes.get(i).decisions.get(j) : -1;
    }

    int holds(int i, int word) {
        if (!isRoute(i) || word < 0 || word >= words()) {
            return -1;
        }
        return routes.get(i).results.containsKey(word) ? 1 : 0;
    }

    int value(int i, int word) {
        if (!isRoute(i) || word < 0 || word >= words()) {
            return 0;
        }
        return forced(routes.get(i), new Traveller(word));
    }

    int find(int i, int what, int v) {
        if (!isRoute(i)) {
            return -1;
        }
        for (int word : routes.get(i).results.keySet()) {
            int result = routes.get(i).results.get(word);
            boolean isIt = what == 0 && result == v || what == 1 && result != v
                || what == 2 && unsigned(result) < unsigned(v) || what == 3 && result < v;
            if (isIt) {
                return word;
            }
        }
        return -1;
    }

    int run(int word) {
        if (word < 0 || word >= words()) {
            return -1;
        }
        List<Route> only = new ArrayList<>();
        travel(0, new Route(), new ArrayList<>(List.of(new Traveller(word))), only);
        ran = only.get(0);
        ranIsOld = false;
        return ran.end;
    }

    int ran(int what) {
        if (ran == null) {
            return -1;
        }
        switch (what) {
            case 0: return ran.end;
            case 1: return ran.place;
            case 2: return ran.results.get(ran.last.word);
            case 3: return ran.last.done;
            case 4: return ran.decisions.size();
            case 5: return ranIsOld || routes == null ? -1 : routeOf(ran.last.word);
            default: return -1;
        }
    }

    int register(int k) {
        return ran == null || k < 0 || k > 15 ? 0 : (int) ran.last.registers[k];
    }

    int cell(int k) {
        return ran == null || k < 0 || k > 7 ? 0 : (int) ran.last.cells[k];
    }

    int failure(int k, int what) {
        List<int[]> all = failures();
        return k < 0 || k >= all.size() || what < 0 || what > 2 ? -1 : all.get(k)[what];
    }

    int covered(int place) {
        if (routes == null || place < 0 || place >= program.size()) {
            return -1;
        }
        return visitedByAny().contains(place) ? 1 : 0;
    }

    int count(int what) {
        switch (what) {
            case 0: return inputs.size();
            case 1: return bitsOfAll();
            case 2: return program.size();
            case 3: return routes == null ? -1 : routes.size();
            case 4: return routes == null ? -1 : failures().size();
            case 5: return routes == null ? -1 : visitedByAny().size();
            default: return -1;
        }
    }

    // What it is made of

    private void forget() {
        routes = null;
        ranIsOld = true;
    }

    private boolean isRoute(int i) {
        return routes != null && i >= 0 && i < routes.size();
    }

    private int routeOf(int word) {
        for (int i = 0; i < routes.size(); i++) {
            if (routes.get(i).results.containsKey(word)) {
                return i;
            }
        }
        return -1;
    }

    private TreeSet<Integer> visitedByAny() {
        TreeSet<Integer> places = new TreeSet<>();
        for (Route route : routes) {
            places.addAll(route.visited);
        }
        return places;
    }

    /** Of each failure its end, place and least word, by place, then end. */
    private List<int[]> failures() {
        TreeMap<Integer, Integer> least = new TreeMap<>();
        if (routes != null) {
            for (Route route : routes) {
                if (route.end != 0) {
                    least.merge(route.place * 8 + route.end, route.results.firstKey(), Math::min);
                }
            }
        }
        List<int[]> all = new ArrayList<>();
        least.forEach((key, word) -> all.add(new int[] {key % 8, key / 8, word}));
        return all;
    }

    private int bitsOfAll() {
        int sum = 0;
        for (int[] input : inputs) {
            sum += input[0];
        }
        return sum;
    }

    private int words() {
        return 1 << bitsOfAll();
    }

    private int told(int from, int to) {
        int sum = 0;
        for (int[] instruction : program) {
            sum += instruction[0] >= from && instruction[0] <= to ? 1 : 0;
        }
        return sum;
    }

    private static String form(int number) {
        String[] forms = {"r.", "ri", "rr", "rrr", "rrr", "rrr", "rrr", "rrr", "rrr", "rrr", "rrr", "rrr", "rrr", "rrr",
            "rrr", "rrr", "rrr", "rrr", "rrr", "rrr", "rrr", "rrr", "rr", "rr", "rrr", "rr", "rr", "rt", "t", "r", "k",
            "r"};
        return forms[number];
    }

    private boolean isOfKind(char kind, int word) {
        switch (kind) {
            case 'r': return word >= 0 && word < 16;
            case 'i': return word >= 0 && word < inputs.size();
            case 't': return word > program.size() && word <= 60;
            case 'k': return word >= 0 && word < 256;
            default: return true;
        }
    }

    private long inputOf(int word, int k) {
        StringBuilder digits = new StringBuilder();
        for (int bit = bitsOfAll() - 1; bit >= 0; bit--) {
            digits.append((word >> bit) & 1);
        }
        int from = 0;
        for (int before = 0; before < k; before++) {
            from += inputs.get(before)[0];
        }
        String own = digits.substring(from, from + inputs.get(k)[0]);
        long number = Long.parseLong(own, 2);
        boolean isNegative = inputs.get(k)[1] == 1 && own.charAt(0) == '1';
        return isNegative ? number - (1L << own.length()) + ROUND : number;
    }

    private static long unsigned(int value) {
        return Integer.toUnsignedLong(value);
    }

    private static long signed(long value) {
        return value >= ROUND / 2 ? value - ROUND : value;
    }

    /** Sends the travellers on from a place, all along one route so far, and adds the routes that they end by. */
    private void travel(int begin, Route route, List<Traveller> travellers, List<Route> found) {
        int place = begin;
        while (place < program.size() && found.size() <= 40) {
            int[] instruction = program.get(place);
            route.visited.add(place);
            for (Traveller traveller : travellers) {
                traveller.done++;
            }
            if (isDeciding(instruction[0])) {
                split(place, route, travellers, found);
                return;
            }
            if (instruction[0] >= 30) {
                finish(route, instruction[0] == 30 ? 4 : 0, place, instruction, travellers, found);
                return;
            }
            if (instruction[0] == 28) {
                place = instruction[1];
            } else {
                for (Traveller traveller : travellers) {
                    apply(instruction, traveller);
                }
                place++;
            }
        }
        finish(route, 0, program.size(), null, travellers, found);
    }

    private static boolean isDeciding(int number) {
        return number >= 12 && number <= 15 || number >= 25 && number <= 27 || number == 29;
    }

    private void split(int place, Route route, List<Traveller> travellers, List<Route> found) {
        int[] instruction = program.get(place);
        List<Traveller> ones = new ArrayList<>();
        List<Traveller> zeros = new ArrayList<>();
        for (Traveller traveller : travellers) {
            (isOne(instruction, traveller) ? ones : zeros).add(traveller);
        }
        if (!ones.isEmpty()) {
            for (Traveller traveller : ones) {
                apply(instruction, traveller);
            }
            int next = instruction[0] == 27 ? instruction[2] : place + 1;
            travel(next, new Route(route, 2 * place + 1), ones, found);
        }
        if (!zeros.isEmpty() && instruction[0] == 27) {
            travel(place + 1, new Route(route, 2 * place), zeros, found);
        } else if (!zeros.isEmpty()) {
            finish(new Route(route, 2 * place), failureOf(instruction[0]), place, null, zeros, found);
        }
    }

    private static int failureOf(int number) {
        return number <= 15 ? 1 : number == 29 ? 3 : 2;
    }

    private static boolean isOne(int[] instruction, Traveller traveller) {
        switch (instruction[0]) {
            case 25: return traveller.registers[instruction[2]] < 8;
            case 26: case 27: case 29:
                long value = traveller.registers[instruction[1]];
                return instruction[0] == 26 ? value < 8 : value != 0;
            default: return traveller.registers[instruction[3]] != 0;
        }
    }

    private void finish(Route route, int end, int place, int[] last, List<Traveller> travellers, List<Route> found) {
        route.end = end;
        route.place = place;
        for (Traveller traveller : travellers) {
            route.results.put(traveller.word, resultOf(last, traveller));
            route.last = traveller;
        }
        found.add(route);
    }

    private static int resultOf(int[] last, Traveller traveller) {
        if (last == null) {
            return 0;
        }
        return last[0] == 30 ? last[1] : (int) traveller.registers[last[1]];
    }

    /** RESULT of a traveller that is led along a route, whatever its values say. */
    private int forced(Route route, Traveller traveller) {
        int place = 0;
        int decision = 0;
        while (place < program.size()) {
            int[] instruction = program.get(place);
            if (instruction[0] >= 30) {
                return resultOf(instruction, traveller);
            }
            int next = instruction[0] == 28 ? instruction[1] : place + 1;
            if (isDeciding(instruction[0])) {
                boolean isOne = route.decisions.get(decision++) % 2 == 1;
                if (instruction[0] == 27) {
                    next = isOne ? instruction[2] : next;
                } else if (!isOne) {
                    return 0;
                }
            }
            apply(instruction, traveller);
            place = next;
        }
        return 0;
    }

    /** What an instruction does to registers and cells; IF, JUMP and ASSERT do nothing. */
    private void apply(int[] instruction, Traveller traveller) {
        long[] r = traveller.registers;
        int a = instruction[1];
        int b = instruction[2];
        int c = instruction[3];
        switch (instruction[0]) {
            case 0: r[a] = unsigned(b); break;
            case 1: r[a] = inputOf(traveller.word, b); break;
            case 2: r[a] = r[b]; break;
            case 22: r[a] = ROUND - 1 - r[b]; break;
            case 23: r[a] = (ROUND - r[b]) % ROUND; break;
            case 24: r[a] = r[b] == 0 ? r[a] : r[c]; break;
            case 25: r[a] = r[b] < 8 ? traveller.cells[(int) r[b]] : 0; break;
            case 26:
                if (r[a] < 8) {
                    traveller.cells[(int) r[a]] = r[b];
                }
                break;
            case 27: case 28: case 29: break;
            default: r[a] = Math.floorMod(combined(instruction[0], r[b], r[c]), ROUND); break;
        }
    }

    private static long combined(int number, long x, long y) {
        switch (number) {
            case 3: return x + y;
            case 4: return x - y;
            case 5: return new java.math.BigInteger("" + x).multiply(new java.math.BigInteger("" + y)).longValue();
            case 6: return x & y;
            case 7: return x | y;
            case 8: return x ^ y;
            case 9: return x * (1L << y % 32);
            case 10: return x / (1L << y % 32);
            case 11: return Math.floorDiv(signed(x), 1L << y % 32);
            case 12: return y == 0 ? -1 : x / y;
            case 13: return y == 0 ? x : x % y;
            case 14: return y == 0 ? -1 : signed(x) / signed(y);
            case 15: return y == 0 ? x : signed(x) % signed(y);
            case 16: return x == y ? 1 : 0;
            case 17: return x == y ? 0 : 1;
            case 18: return x < y ? 1 : 0;
            case 19: return x <= y ? 1 : 0;
            case 20: return signed(x) < signed(y) ? 1 : 0;
            default: return signed(x) <= signed(y) ? 1 : 0;
        }
    }
}
