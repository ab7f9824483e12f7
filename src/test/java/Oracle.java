import java.util.ArrayDeque;
import java.util.ArrayList;
import java.util.BitSet;
import java.util.Deque;
import java.util.List;
import java.util.function.IntUnaryOperator;

/**
 * The document once more, in other ways than the program's: the fault by a stack of what may follow, the values by
 * functions, each question by sets of states that are swept until nothing changes.
 */
final class Oracle {
    private static final int STATES = 4096;

    private record Token(String kind, int value, int place) { }

    final List<IntUnaryOperator> guards = new ArrayList<>();
    final List<IntUnaryOperator[]> updates = new ArrayList<>();
    final List<BitSet> guesses = new ArrayList<>();
    BitSet begin;
    BitSet goal;
    IntUnaryOperator rank;
    int unaries;
    private int[][] turns;

    // ---- tokens

    private static List<Token> tokens(String text) {
        List<Token> found = new ArrayList<>();
        int at = 0;
        while (at < text.length()) {
            char c = text.charAt(at);
            int start = at;
            if (c == ' ' || c == '\n') {
                at++;
            } else if (letter(c)) {
                while (at < text.length() && letter(text.charAt(at))) {
                    at++;
                }
                String word = text.substring(start, at);
                boolean variable = List.of("a", "b", "c").contains(word);
                boolean known = List.of("begin", "when", "do", "goal", "guess", "rank", "or", "and", "not").contains(word);
                found.add(new Token(variable ? "VAR" : known ? word : "?", variable ? c - 'a' : 0, start));
            } else if (c >= '0' && c <= '9') {
                while (at < text.length() && text.charAt(at) >= '0' && text.charAt(at) <= '9') {
                    at++;
                }
                String digits = text.substring(start, at);
                boolean number = digits.matches("[0-9]|1[0-5]");
                found.add(new Token(number ? "NUM" : "?", number ? Integer.parseInt(digits) : 0, start));
            } else {
                at++;
                found.add(new Token(";,=<#+-*()[]".indexOf(c) >= 0 ? "" + c : "?", 0, start));
            }
        }
        found.add(new Token("$", 0, text.length()));
        return found;
    }

    private static boolean letter(char c) {
        return c >= 'a' && c <= 'z' || c >= 'A' && c <= 'Z';
    }

    // ---- the fault

    /** Where the fault lies, or -1; start is LOOP or ASK. */
    static int fault(String text, String start) {
        Deque<String> stack = new ArrayDeque<>();
        List<Token> row = tokens(text);
        push(stack, start);
        int at = 0;
        int depth = 0;
        int whens = 0;
        int guesses = 0;
        int unaries = 0;
        String toldHere = "";
        while (!stack.isEmpty()) {
            Token token = row.get(at);
            String kind = token.kind();
            String top = stack.pop();
            switch (top) {
                case "LOOP" -> push(stack, "begin COND ; WHEN WHENS goal COND ; GUESSES RANKED $");
                case "ASK" -> push(stack, "COND $");
                case "WHENS" -> push(stack, kind.equals("when") ? "WHEN WHENS" : "");
                case "WHEN" -> {
                    if (whens == 6) {
                        return token.place();
                    }
                    whens++;
                    toldHere = "";
                    push(stack, "when COND do LET LETS ;");
                }
                case "LETS" -> push(stack, kind.equals(",") ? ", LET LETS" : "");
                case "LET" -> {
                    if (kind.equals("VAR") && toldHere.contains("" + token.value())) {
                        return token.place();
                    }
                    toldHere += token.value();
                    push(stack, "VAR = EXP");
                }
                case "GUESSES" -> {
                    if (kind.equals("guess")) {
                        if (guesses == 12) {
                            return token.place();
                        }
                        guesses++;
                        push(stack, "guess COND ; GUESSES");
                    }
                }
                case "RANKED" -> push(stack, kind.equals("rank") ? "rank EXP ;" : "");
                case "COND" -> push(stack, "CONJ ORS");
                case "ORS" -> push(stack, kind.equals("or") ? "or CONJ ORS" : "");
                case "CONJ" -> push(stack, "PRIM ANDS");
                case "ANDS" -> push(stack, kind.equals("and") ? "and PRIM ANDS" : "");
                case "PRIM" -> push(stack, kind.equals("not") ? "IN not PRIM OUT" : kind.equals("[") ? "IN [ COND ] OUT" : "EXP REL EXP");
                case "REL" -> push(stack, kind.equals("<") || kind.equals("#") ? kind : "=");
                case "EXP" -> push(stack, "TERM SUMS");
                case "SUMS" -> push(stack, kind.equals("+") || kind.equals("-") ? kind + " TERM SUMS" : "");
                case "TERM" -> push(stack, "UNARY PRODUCTS");
                case "PRODUCTS" -> push(stack, kind.equals("*") ? "* UNARY PRODUCTS" : "");
                case "UNARY" -> {
                    if (unaries == 100) {
                        return token.place();
                    }
                    unaries++;
                    push(stack, kind.equals("-") ? "IN - UNARY OUT" : kind.equals("(") ? "IN ( EXP ) OUT" : kind.equals("VAR") ? "VAR" : "NUM");
                }
                case "IN" -> {
                    if (depth == 8) {
                        return token.place();
                    }
                    depth++;
                }
                case "OUT" -> depth--;
                default -> {
                    if (!kind.equals(top)) {
                        return token.place();
                    }
                    at++;
                }
            }
        }
        return -1;
    }

    private static void push(Deque<String> stack, String symbols) {
        if (symbols.isEmpty()) {
            return;
        }
        String[] each = symbols.split(" ");
        for (int i = each.length - 1; i >= 0; i--) {
            stack.push(each[i]);
        }
    }

    // ---- the meaning of a text without a fault

    private List<Token> row;
    private int at;

    static Oracle of(String text) {
        Oracle oracle = new Oracle();
        oracle.row = tokens(text);
        oracle.at = 1;
        oracle.begin = states(oracle.cond());
        oracle.at++;
        while (oracle.took("when")) {
            oracle.choice();
        }
        oracle.at++;
        oracle.goal = states(oracle.cond());
        oracle.at++;
        while (oracle.took("guess")) {
            oracle.guesses.add(states(oracle.cond()));
            oracle.at++;
        }
        if (oracle.took("rank")) {
            oracle.rank = oracle.exp();
        }
        oracle.findTurns();
        return oracle;
    }

    BitSet question(String cond) {
        row = tokens(cond);
        at = 0;
        int before = unaries;
        BitSet found = states(cond());
        unaries = before;
        return found;
    }

    private void choice() {
        guards.add(cond());
        IntUnaryOperator[] update = {s -> s & 15, s -> s >> 4 & 15, s -> s >> 8};
        do {
            at++;
            int variable = row.get(at).value();
            at += 2;
            update[variable] = exp();
        } while (row.get(at).kind().equals(","));
        updates.add(update);
        at++;
    }

    private boolean took(String kind) {
        if (!row.get(at).kind().equals(kind)) {
            return false;
        }
        at++;
        return true;
    }

    private IntUnaryOperator cond() {
        IntUnaryOperator left = conj();
        while (took("or")) {
            IntUnaryOperator one = left;
            IntUnaryOperator other = conj();
            left = s -> Math.max(one.applyAsInt(s), other.applyAsInt(s));
        }
        return left;
    }

    private IntUnaryOperator conj() {
        IntUnaryOperator left = prim();
        while (took("and")) {
            IntUnaryOperator one = left;
            IntUnaryOperator other = prim();
            left = s -> Math.min(one.applyAsInt(s), other.applyAsInt(s));
        }
        return left;
    }

    private IntUnaryOperator prim() {
        if (took("not")) {
            IntUnaryOperator inner = prim();
            return s -> inner.applyAsInt(s) == 0 ? 1 : 0;
        }
        if (took("[")) {
            IntUnaryOperator inner = cond();
            at++;
            return inner;
        }
        IntUnaryOperator left = exp();
        String relation = row.get(at++).kind();
        IntUnaryOperator right = exp();
        return switch (relation) {
            case "<" -> s -> left.applyAsInt(s) < right.applyAsInt(s) ? 1 : 0;
            case "=" -> s -> left.applyAsInt(s) == right.applyAsInt(s) ? 1 : 0;
            default -> s -> left.applyAsInt(s) == right.applyAsInt(s) ? 0 : 1;
        };
    }

    private IntUnaryOperator exp() {
        IntUnaryOperator left = term();
        while (true) {
            IntUnaryOperator one = left;
            if (took("+")) {
                IntUnaryOperator other = term();
                left = s -> Math.floorMod(one.applyAsInt(s) + other.applyAsInt(s), 16);
            } else if (took("-")) {
                IntUnaryOperator other = term();
                left = s -> Math.floorMod(one.applyAsInt(s) - other.applyAsInt(s), 16);
            } else {
                return left;
            }
        }
    }

    private IntUnaryOperator term() {
        IntUnaryOperator left = unary();
        while (took("*")) {
            IntUnaryOperator one = left;
            IntUnaryOperator other = unary();
            left = s -> Math.floorMod(one.applyAsInt(s) * other.applyAsInt(s), 16);
        }
        return left;
    }

    private IntUnaryOperator unary() {
        unaries++;
        if (took("-")) {
            IntUnaryOperator inner = unary();
            return s -> Math.floorMod(-inner.applyAsInt(s), 16);
        }
        if (took("(")) {
            IntUnaryOperator inner = exp();
            at++;
            return inner;
        }
        Token token = row.get(at++);
        int value = token.value();
        if (token.kind().equals("NUM")) {
            return s -> value;
        }
        return switch (value) {
            case 0 -> s -> s % 16;
            case 1 -> s -> s / 16 % 16;
            default -> s -> s / 256;
        };
    }

    private static BitSet states(IntUnaryOperator cond) {
        BitSet found = new BitSet();
        for (int s = 0; s < STATES; s++) {
            found.set(s, cond.applyAsInt(s) == 1);
        }
        return found;
    }

    // ---- states and turns

    private void findTurns() {
        turns = new int[STATES][];
        for (int s = 0; s < STATES; s++) {
            int state = s;
            turns[s] = java.util.stream.IntStream.range(0, guards.size()).map(i -> next(state, i)).filter(t -> t >= 0)
                .distinct().sorted().toArray();
        }
    }

    int next(int s, int i) {
        if (guards.get(i).applyAsInt(s) == 0) {
            return -1;
        }
        IntUnaryOperator[] update = updates.get(i);
        return update[0].applyAsInt(s) + 16 * update[1].applyAsInt(s) + 256 * update[2].applyAsInt(s);
    }

    boolean isEnd(int s) {
        return turns[s].length == 0;
    }

    private BitSet behind(BitSet from) {
        BitSet found = new BitSet();
        from.stream().forEach(s -> {
            for (int t : turns[s]) {
                found.set(t);
            }
        });
        return found;
    }

    private BitSet before(BitSet to) {
        BitSet found = new BitSet();
        for (int s = 0; s < STATES; s++) {
            for (int t : turns[s]) {
                if (to.get(t)) {
                    found.set(s);
                }
            }
        }
        return found;
    }

    private static BitSet without(BitSet all, BitSet some) {
        BitSet rest = (BitSet) all.clone();
        rest.andNot(some);
        return rest;
    }

    private static BitSet both(BitSet one, BitSet other) {
        BitSet found = (BitSet) one.clone();
        found.and(other);
        return found;
    }

    private static BitSet every() {
        BitSet all = new BitSet();
        all.set(0, STATES);
        return all;
    }

    /** The states of each level. */
    List<BitSet> levels() {
        List<BitSet> found = new ArrayList<>();
        BitSet seen = new BitSet();
        BitSet now = begin;
        while (!now.isEmpty()) {
            found.add(now);
            seen.or(now);
            now = without(behind(now), seen);
        }
        return found;
    }

    BitSet reached() {
        BitSet all = new BitSet();
        levels().forEach(all::or);
        return all;
    }

    int pairs() {
        return reached().stream().map(s -> turns[s].length).sum();
    }

    List<Integer> counter() {
        List<BitSet> levels = levels();
        int length = 0;
        while (length < levels.size() && without(levels.get(length), goal).isEmpty()) {
            length++;
        }
        List<Integer> path = new ArrayList<>();
        if (length == levels.size()) {
            return path;
        }
        List<BitSet> inSteps = new ArrayList<>();
        inSteps.add(without(every(), goal));
        for (int k = 1; k <= length; k++) {
            inSteps.add(before(inSteps.get(k - 1)));
        }
        BitSet can = begin;
        for (int k = length; k >= 0; k--) {
            int s = both(can, inSteps.get(k)).nextSetBit(0);
            path.add(s);
            BitSet only = new BitSet();
            only.set(s);
            can = behind(only);
        }
        return path;
    }

    /** In which round each guess goes, 100 for never. */
    int[] rounds() {
        int[] rounds = new int[guesses.size()];
        java.util.Arrays.fill(rounds, 100);
        for (int g = 0; g < rounds.length; g++) {
            if (!without(begin, guesses.get(g)).isEmpty()) {
                rounds[g] = 0;
            }
        }
        boolean gone = true;
        for (int round = 1; gone; round++) {
            gone = false;
            BitSet behind = behind(kept(rounds));
            for (int g = 0; g < rounds.length; g++) {
                if (rounds[g] == 100 && !without(behind, guesses.get(g)).isEmpty()) {
                    rounds[g] = round;
                    gone = true;
                }
            }
        }
        return rounds;
    }

    BitSet kept(int[] rounds) {
        BitSet all = every();
        for (int g = 0; g < rounds.length; g++) {
            if (rounds[g] == 100) {
                all.and(guesses.get(g));
            }
        }
        return all;
    }

    int induction(boolean strongly) {
        BitSet allowed = strongly ? both(goal, kept(rounds())) : goal;
        List<BitSet> levels = levels();
        BitSet last = allowed;
        for (int k = 1; k <= 16; k++) {
            if (k <= levels.size() && !without(levels.get(k - 1), goal).isEmpty()) {
                return 0;
            }
            if (without(behind(last), goal).isEmpty()) {
                return k;
            }
            last = both(behind(last), allowed);
        }
        return 0;
    }

    int falls() {
        for (int s : reached().stream().toArray()) {
            for (int t : turns[s]) {
                if (rank.applyAsInt(t) >= rank.applyAsInt(s)) {
                    return 0;
                }
            }
        }
        return 1;
    }

    int longest() {
        BitSet now = begin;
        for (int n = 0; n <= STATES; n++) {
            if (now.isEmpty()) {
                return n - 1;
            }
            now = behind(now);
        }
        return 5000;
    }

    int ask(BitSet cond, int kind) {
        return switch (kind) {
            case 0 -> cond.cardinality();
            case 1 -> both(cond, reached()).cardinality();
            case 2 -> some(cond).cardinality();
            case 3 -> always(cond).cardinality();
            default -> stay(cond).cardinality();
        };
    }

    private BitSet some(BitSet cond) {
        BitSet found = (BitSet) cond.clone();
        int size = -1;
        while (size != found.cardinality()) {
            size = found.cardinality();
            found.or(before(found));
        }
        return found;
    }

    private BitSet always(BitSet cond) {
        BitSet found = (BitSet) cond.clone();
        int size = -1;
        while (size != found.cardinality()) {
            size = found.cardinality();
            for (int s = 0; s < STATES; s++) {
                if (!isEnd(s) && java.util.Arrays.stream(turns[s]).allMatch(found::get)) {
                    found.set(s);
                }
            }
        }
        return found;
    }

    private BitSet stay(BitSet cond) {
        BitSet found = (BitSet) cond.clone();
        int size = -1;
        while (size != found.cardinality()) {
            size = found.cardinality();
            for (int s = 0; s < STATES; s++) {
                if (!java.util.Arrays.stream(turns[s]).allMatch(found::get)) {
                    found.clear(s);
                }
            }
        }
        return found;
    }
}
