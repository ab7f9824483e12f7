import java.util.BitSet;
import java.util.List;
import java.util.Random;

/**
 * Random loops, whole ones and broken ones, answered by the program and by the oracle. An object gets far more than 512
 * calls here, which the document leaves free: it is this program's own way to answer them alike.
 */
public final class OracleTest {
    private static final Checks CHECKS = new Checks();
    private static final Random RANDOM = new Random(20261115);
    private static final String ODD_BYTES = "abcABZdoe 0159;,=<#+-*()[]\n\t!>~\u0000\u0080\u00ff";

    public static void main(String[] args) {
        LoopInduction x = new LoopInduction();
        for (int n = 0; n < 250; n++) {
            // most loops come to an object that has had others, so that nothing of those may be left
            x = n % 25 == 0 ? new LoopInduction() : x;
            wholeLoop(x, loop());
        }
        for (int n = 0; n < 6000; n++) {
            brokenText(loop());
        }
        for (int n = 0; n < 2000; n++) {
            tokenSoup();
        }
        wildCalls();
        CHECKS.finish("OracleTest");
    }

    // ---- texts

    private static int pick(int bound) {
        return RANDOM.nextInt(bound);
    }

    private static String loop() {
        StringBuilder text = new StringBuilder("begin ").append(pick(3) > 0 ? "a=0 and b=0 and c=" + pick(16) : cond(2)).append(';');
        int choices = 1 + pick(RANDOM.nextBoolean() ? 3 : 6);
        for (int i = 0; i < choices; i++) {
            text.append(blank()).append("when ").append(cond(1)).append(" do ").append(lets()).append(';');
        }
        text.append("goal ").append(likely()).append(";");
        int guesses = pick(pick(4) == 0 ? 13 : 4);
        for (int i = 0; i < guesses; i++) {
            text.append("guess ").append(likely()).append(';').append(blank());
        }
        if (RANDOM.nextBoolean()) {
            text.append("rank ").append(exp(2)).append(';').append(blank());
        }
        return text.toString();
    }

    private static String blank() {
        return List.of("", " ", "\n", "  \n ").get(pick(4));
    }

    private static String lets() {
        List<String> names = new java.util.ArrayList<>(List.of("a", "b", "c"));
        java.util.Collections.shuffle(names, RANDOM);
        int count = pick(3) == 0 ? 1 + pick(3) : 1;
        StringBuilder row = new StringBuilder();
        for (int i = 0; i < count; i++) {
            String name = names.get(i);
            String value = pick(3) > 0 ? name + (RANDOM.nextBoolean() ? "+1" : "-1") : exp(1);
            row.append(i > 0 ? "," : "").append(name).append('=').append(value);
        }
        return row.toString();
    }

    /** Often a cond that few states lack, so that runs go on for a while before they break it. */
    private static String likely() {
        return pick(3) == 0 ? cond(1) : "abc".charAt(pick(3)) + (RANDOM.nextBoolean() ? "#" : "<") + (1 + pick(15));
    }

    private static String cond(int depth) {
        int kind = pick(depth > 0 ? 8 : 4);
        if (kind < 4) {
            return exp(depth) + "<=#".charAt(pick(3)) + exp(depth);
        }
        if (kind == 4) {
            return "not " + cond(depth - 1);
        }
        if (kind == 5) {
            return "[" + cond(depth - 1) + blank() + "]";
        }
        return cond(depth - 1) + (RANDOM.nextBoolean() ? " and " : " or ") + cond(depth - 1);
    }

    private static String exp(int depth) {
        int kind = pick(depth > 0 ? 9 : 6);
        if (kind < 4) {
            return "abc".substring(pick(3)).substring(0, 1);
        }
        if (kind < 6) {
            return "" + pick(16);
        }
        if (kind == 6) {
            return "-" + exp(depth - 1);
        }
        if (kind == 7) {
            return "(" + exp(depth - 1) + ")";
        }
        return exp(depth - 1) + "+-*".charAt(pick(3)) + exp(depth - 1);
    }

    private static String broken(String text) {
        StringBuilder row = new StringBuilder(text);
        int changes = 1 + pick(2);
        for (int n = 0; n < changes && row.length() > 0; n++) {
            int at = pick(row.length());
            char odd = ODD_BYTES.charAt(pick(ODD_BYTES.length()));
            switch (pick(5)) {
                case 0 -> row.setCharAt(at, odd);
                case 1 -> row.insert(at, odd);
                case 2 -> row.deleteCharAt(at);
                case 3 -> row.setLength(at);
                default -> row.insert(at, row.substring(at, Math.min(row.length(), at + 1 + pick(20))));
            }
        }
        return row.toString();
    }

    private static String plain(String text) {
        return text.length() > 1200 ? text.substring(0, 1200) : text;
    }

    // ---- comparisons

    private static void brokenText(String whole) {
        compareFault(plain(broken(whole)));
    }

    private static void compareFault(String text) {
        LoopInduction x = new LoopInduction();
        int place = Oracle.fault(text, "LOOP");
        CHECKS.about(text);
        CHECKS.due("text", Checks.text(x, text), place < 0 ? 1 : -2);
        CHECKS.due("place", x.place(), place);
    }

    /** Tokens in a likely order but without a plan, so that limits are met that no loop comes near. */
    private static void tokenSoup() {
        String[] opens = {"not ", "[", "-", "("};
        StringBuilder cond = new StringBuilder();
        int nested = pick(11);
        for (int n = 0; n < nested; n++) {
            cond.append(opens[pick(n > 4 ? 4 : 2)]);
        }
        cond.append(cond(2)).append("])".repeat(pick(3))).append(" and ").append("1*".repeat(pick(120))).append("1=a");
        String text = "begin " + cond + "; when a=0 do a=1; goal a=0;";
        compareFault(plain(text));
        LoopInduction x = Checks.loop("begin a=0; when a=0 do a=1; goal a=0;");
        int place = Oracle.fault(cond.toString(), "ASK");
        int due = place >= 0 ? -2 : Oracle.of("begin a=0; when a=0 do a=1; goal a=0;").question(cond.toString()).cardinality();
        CHECKS.due("ask", Checks.ask(x, cond.toString(), 0), due);
    }

    private static void wholeLoop(LoopInduction x, String text) {
        if (text.length() > 1200 || Oracle.fault(text, "LOOP") >= 0) {
            return;
        }
        CHECKS.about(text);
        CHECKS.due("text", Checks.text(x, text), 1);
        Oracle oracle = Oracle.of(text);
        compareTold(x, oracle);
        compareStates(x, oracle);
        compareProofs(x, oracle);
        compareRuns(x, oracle);
        for (int n = 0; n < 3; n++) {
            compareAsk(x, oracle, cond(2));
        }
        compareBehindFault(x, oracle);
    }

    private static void compareTold(LoopInduction x, Oracle oracle) {
        CHECKS.due("told(0)", x.told(0), oracle.guards.size());
        CHECKS.due("told(1)", x.told(1), oracle.guesses.size());
        CHECKS.due("told(2)", x.told(2), oracle.unaries);
        CHECKS.due("told(3)", x.told(3), oracle.rank == null ? 0 : 1);
    }

    private static int bit(BitSet row, int s) {
        return row.get(s) ? 1 : 0;
    }

    private static void compareStates(LoopInduction x, Oracle oracle) {
        BitSet reached = oracle.reached();
        for (int s = 0; s < 4096; s++) {
            String where = " in state " + s;
            CHECKS.due("begin" + where, x.has(s, 0), bit(oracle.begin, s));
            CHECKS.due("goal" + where, x.has(s, 1), bit(oracle.goal, s));
            CHECKS.due("reached" + where, x.has(s, 2), bit(reached, s));
            CHECKS.due("end" + where, x.has(s, 3), oracle.isEnd(s) ? 1 : 0);
            for (int g = 0; g < oracle.guesses.size(); g++) {
                CHECKS.due("guess " + g + where, x.has(s, 4 + g), bit(oracle.guesses.get(g), s));
            }
            for (int i = 0; i < oracle.guards.size(); i++) {
                CHECKS.due("next " + i + where, x.next(s, i), oracle.next(s, i));
            }
            CHECKS.due("rank" + where, x.rank(s), oracle.rank == null ? -1 : oracle.rank.applyAsInt(s));
        }
        compareLevels(x, oracle);
    }

    private static void compareLevels(LoopInduction x, Oracle oracle) {
        List<BitSet> levels = oracle.levels();
        int[] due = new int[4096];
        java.util.Arrays.fill(due, -1);
        for (int n = 0; n < levels.size(); n++) {
            int level = n;
            levels.get(n).stream().forEach(s -> due[s] = level);
        }
        for (int s = 0; s < 4096; s++) {
            CHECKS.due("level of " + s + "", x.level(s), due[s]);
        }
        BitSet reached = oracle.reached();
        CHECKS.due("many(0)", x.many(0), oracle.begin.cardinality());
        CHECKS.due("many(1)", x.many(1), oracle.goal.cardinality());
        CHECKS.due("many(2)", x.many(2), reached.cardinality());
        CHECKS.due("many(3)", x.many(3), reached.stream().filter(oracle::isEnd).count());
        CHECKS.due("many(4)", x.many(4), levels.size() - 1);
        CHECKS.due("many(5)", x.many(5), oracle.pairs());
    }

    private static void compareProofs(LoopInduction x, Oracle oracle) {
        int[] rounds = oracle.rounds();
        int sum = 0;
        for (int g = 0; g < rounds.length; g++) {
            CHECKS.due("gone(" + g + ")", x.gone(g), rounds[g]);
            sum += rounds[g] == 100 ? 1 << g : 0;
        }
        CHECKS.due("gone", x.gone(rounds.length), -1);
        CHECKS.due("kept", x.kept(), sum);
        BitSet kept = oracle.kept(rounds);
        CHECKS.due("many(6)", x.many(6), kept.cardinality());
        BitSet bad = (BitSet) kept.clone();
        bad.andNot(oracle.goal);
        CHECKS.due("follows", x.follows(), bad.isEmpty() ? 1 : 0);
        CHECKS.due("induction(0)", x.induction(0), oracle.induction(false));
        CHECKS.due("induction(1)", x.induction(1), oracle.induction(true));
    }

    private static void compareRuns(LoopInduction x, Oracle oracle) {
        List<Integer> path = oracle.counter();
        for (int i = 0; i < path.size(); i++) {
            CHECKS.due("counter(" + i + ")", x.counter(i), path.get(i));
        }
        CHECKS.due("counter", x.counter(path.size()), -1);
        CHECKS.due("falls", x.falls(), oracle.rank == null ? -1 : oracle.falls());
        CHECKS.due("longest", x.longest(), oracle.longest());
    }

    /** A text with a fault leaves all as it was. */
    private static void compareBehindFault(LoopInduction x, Oracle oracle) {
        String other = plain(broken(loop()));
        if (Oracle.fault(other, "LOOP") >= 0) {
            CHECKS.due("text " + other, Checks.text(x, other), -2);
            compareTold(x, oracle);
            compareProofs(x, oracle);
            compareRuns(x, oracle);
        }
    }

    private static void compareAsk(LoopInduction x, Oracle oracle, String cond) {
        BitSet states = oracle.question(cond);
        for (int kind = 0; kind < 5; kind++) {
            CHECKS.due("ask(" + kind + ") of " + cond + "", Checks.ask(x, cond, kind), oracle.ask(states, kind));
        }
    }

    // ---- no call may throw

    private static int wild() {
        int[] some = {-1, 0, 1, 2, 3, 4, 5, 6, 12, 15, 16, 20, 21, 31, 32, 4095, 4096, 5000, Integer.MAX_VALUE, Integer.MIN_VALUE};
        return pick(8) == 0 ? RANDOM.nextInt() : some[pick(some.length)];
    }

    private static void wildCalls() {
        for (int n = 0; n < 40; n++) {
            LoopInduction x = n % 4 == 0 ? new LoopInduction() : Checks.loop("begin a=0; when a<9 do a=a+b,c=a; goal a<8; guess a<9; rank -a;");
            for (int call = 0; call < 400; call++) {
                wildCall(x);
            }
        }
        CHECKS.due("wild calls end", 0, 0);
    }

    private static void wildCall(LoopInduction x) {
        switch (pick(20)) {
            case 0 -> x.feed(wild(), wild(), wild(), wild(), wild());
            case 1 -> x.end(wild());
            case 2 -> x.text();
            case 3 -> x.place();
            case 4 -> x.told(wild());
            case 5 -> x.has(wild(), wild());
            case 6 -> x.next(wild(), wild());
            case 7 -> x.rank(wild());
            case 8 -> x.many(wild());
            case 9 -> x.level(wild());
            case 10 -> x.counter(wild());
            case 11 -> x.induction(wild());
            case 12 -> x.kept();
            case 13 -> x.gone(wild());
            case 14 -> x.follows();
            case 15 -> x.falls();
            case 16 -> x.longest();
            case 17 -> x.ask(wild());
            default -> Checks.put(x, broken("not [a=0 or -b<c]"));
        }
    }
}
