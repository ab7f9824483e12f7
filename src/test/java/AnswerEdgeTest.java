import java.util.List;

/** Each sentence of the Terms on STATES, and of promises 6 to 19, that names an edge: tests of its own. */
public final class AnswerEdgeTest {
    private static final Checks CHECKS = new Checks();
    private static final int FAR = Integer.MAX_VALUE;
    private static final int[] NO_STATES = {-1, 4096, 4097, 8191, 8192, 65536, -4096, FAR, Integer.MIN_VALUE};
    private static final String HEAD = "begin a=0; when a<3 do a=a+1; goal ";
    private static final String COUNT_UP =
        "begin a=0 and b=0 and c=0; when a<10 do a=a+1; goal a<11; guess a<11; guess b=0; guess a<5; rank 10-a;";
    /** Through all 4096 STATES, each once. */
    private static final String THROUGH_ALL = "begin a=0 and b=0 and c=0; when a#15 do a=a+1; when a=15 and b#15 do a=0,b=b+1;"
        + " when a=15 and b=15 and c#15 do a=0,b=0,c=c+1; goal a#15 or b#15 or c#15;";
    private static final String NONE_BEGINS = "begin 0=1; when a=0 do a=1; goal a=0; guess 0=1; rank a;";

    public static void main(String[] args) {
        states();
        told();
        has();
        nextAndRank();
        many();
        level();
        counter();
        induction();
        guesses();
        ends();
        ask();
        manyCalls();
        CHECKS.finish("AnswerEdgeTest");
    }

    private static void due(String what, long got, long want) {
        CHECKS.due(what, got, want);
    }

    private static LoopInduction loop(String text) {
        return Checks.loop(text);
    }

    /** By six CHOICES from each STATE; three TURNS lead from the first to the last. */
    private static String manyTurns() {
        return "begin a=0 and b=0 and c=0; when 0=0 do a=a+1; when 0=0 do a=a+2; when 0=0 do a=a-1; when 0=0 do b=b-1; when 0=0 do c=c-1;"
            + " when 0=0 do c=c+2; ";
    }

    // ---- STATES and TURNS

    private static void states() {
        CHECKS.sentence("a TURN is by a CHOICE whose cond it has: all VARIABLES become their exps of the old ones, at once", AnswerEdgeTest::atOnce);
        CHECKS.sentence("a STATE from which there is none is an END", AnswerEdgeTest::anEnd);
        CHECKS.sentence("REACHED: begin's cond, and to which TURNS lead from REACHED ones", AnswerEdgeTest::reached);
    }

    private static void atOnce() {
        LoopInduction x = loop("begin a=0; when 0=0 do a=b,b=c,c=a; when 0=0 do c=a,b=c,a=b; when a=1 do a=a+b,b=a+b; goal a=0;");
        due("around", x.next(1 + 16 * 2 + 256 * 3, 0), 2 + 16 * 3 + 256);
        due("in another order", x.next(1 + 16 * 2 + 256 * 3, 1), 2 + 16 * 3 + 256);
        due("both of the old ones", x.next(1 + 16 * 4, 2), 5 + 16 * 5);
        due("what is not told stays", x.next(1 + 16 * 4 + 256 * 9, 2), 5 + 16 * 5 + 256 * 9);
        due("its cond is not had", x.next(2 + 16 * 4, 2), -1);
    }

    private static void anEnd() {
        LoopInduction x = loop("begin a=0; when a=1 do a=2; when a=2 and b=0 do a=2; goal a=0;");
        due("no cond is had", x.has(0, 3), 1);
        due("one is", x.has(1, 3), 0);
        due("a TURN to itself is one", x.has(2, 3), 0);
        due("not REACHED, an END all the same", x.has(2 + 16, 3), 1);
        due("the last STATE", x.has(4095, 3), 1);
        LoopInduction none = loop("begin a=0; when 0=0 do a=a; goal a=0;");
        due("no END at all", none.has(0, 3) + none.has(4095, 3) + none.many(3), 0);
    }

    private static void reached() {
        LoopInduction x = loop("begin a=0 and b=0 and c=0 or a=9 and b=9 and c=9; when a=0 do a=1; when a=1 do c=4; when a=2 do a=3; goal a=0;");
        due("begin's", x.has(0, 2), 1);
        due("another of begin's", x.has(9 + 16 * 9 + 256 * 9, 2), 1);
        due("by one", x.has(1, 2), 1);
        due("by two", x.has(1 + 256 * 4, 2), 1);
        due("behind none that is REACHED", x.has(3, 2), 0);
        due("count", x.many(2), 4);
        LoopInduction all = loop("begin 0=0; when a=0 do a=1; goal a=0;");
        due("all", all.many(2), 4096);
        due("all of LEVEL 0", all.many(4), 0);
        LoopInduction none = loop(NONE_BEGINS);
        due("none", none.many(2), 0);
        due("none by TURNS", none.has(1, 2), 0);
    }

    // ---- promise 6

    private static void told() {
        CHECKS.sentence("6: NONE: no LOOP (so in all of these that follow)", AnswerEdgeTest::noLoop);
        CHECKS.sentence("6: another what", AnswerEdgeTest::toldOther);
        CHECKS.sentence("6: 0 CHOICES, 1 guesses, 2 unaries, 3 whether there is a rank", AnswerEdgeTest::toldLeastAndMost);
    }

    private static void noLoop() {
        allNone(new LoopInduction());
        LoopInduction faulty = new LoopInduction();
        due("fault", Checks.text(faulty, "begin a=0; when a<3 do a=a+1; goal a=0; guess a=0; rank a"), -2);
        allNone(faulty);
    }

    private static void allNone(LoopInduction x) {
        for (int n = 0; n < 7; n++) {
            due("told", x.told(n), -1);
            due("has", x.has(0, n), -1);
            due("next", x.next(0, n), -1);
            due("many", x.many(n), -1);
            due("counter", x.counter(n), -1);
            due("induction", x.induction(n), -1);
            due("gone", x.gone(n), -1);
            due("ask", x.ask(n), -1);
        }
        due("rank", x.rank(0), -1);
        due("level", x.level(0), -1);
        due("kept", x.kept(), -1);
        due("follows", x.follows(), -1);
        due("falls", x.falls(), -1);
        due("longest", x.longest(), -1);
    }

    private static void toldOther() {
        LoopInduction x = loop(COUNT_UP);
        for (int what : new int[] {-1, 4, 5, 100, -100, FAR, Integer.MIN_VALUE, 256, 1 << 16}) {
            due("told " + what, x.told(what), -1);
        }
    }

    private static void toldLeastAndMost() {
        LoopInduction least = loop("begin 0=0; when 0=0 do a=0; goal 0=0;");
        due("choices", least.told(0), 1);
        due("guesses", least.told(1), 0);
        due("unaries", least.told(2), 7);
        due("rank", least.told(3), 0);
        LoopInduction most = loop("begin a=0;" + "when a=0 do a=1;".repeat(6) + "goal a=0;" + "guess a=0;".repeat(12) + "rank " + "1+".repeat(53) + "1;");
        due("choices", most.told(0), 6);
        due("guesses", most.told(1), 12);
        due("unaries", most.told(2), 100);
        due("rank", most.told(3), 1);
        due("a rank of 0", loop(HEAD + "a=0; rank 0;").told(3), 1);
    }

    // ---- promise 7

    private static void has() {
        CHECKS.sentence("7: NONE: none such, of STATES", AnswerEdgeTest::hasNoState);
        CHECKS.sentence("7: NONE: none such, of guesses", AnswerEdgeTest::hasNoGuess);
        CHECKS.sentence("7: 0 begin's cond, 1 goal's, 2 REACHED, 3 END, 4 + i guess i", AnswerEdgeTest::hasEach);
    }

    private static void hasNoState() {
        LoopInduction x = loop("begin 0=0; when a=0 do a=1; goal 0=0; guess 0=0;");
        for (int what = 0; what <= 4; what++) {
            for (int s : NO_STATES) {
                due("state " + s, x.has(s, what), -1);
            }
            due("the first", x.has(0, what), what == 3 ? 0 : 1);
            due("the last", x.has(4095, what), 1);
        }
    }

    private static void hasNoGuess() {
        for (int guesses = 0; guesses <= 12; guesses++) {
            LoopInduction x = loop("begin 0=0; when a=0 do a=1; goal 0=0; " + "guess 0=0; ".repeat(guesses) + "rank 15;");
            for (int what = -40; what < 80; what++) {
                due("what " + what + " of " + guesses, x.has(1, what), what >= 0 && what < 4 + guesses ? 1 : -1);
            }
            for (int what : new int[] {FAR, Integer.MIN_VALUE, 256, 65536, 1 << 30}) {
                due("far", x.has(1, what), -1);
            }
        }
    }

    private static void hasEach() {
        LoopInduction x = loop("begin a=1; when a<4 do a=a+1; goal a=2; guess a=5; guess a=6; guess a=7;");
        int[][] rows = {{0, 0, 0, 0, 0, 0, 0}, {1, 0, 1, 0, 0, 0, 0}, {0, 1, 1, 0, 0, 0, 0}, {0, 0, 1, 0, 0, 0, 0},
            {0, 0, 1, 1, 0, 0, 0}, {0, 0, 0, 1, 1, 0, 0}, {0, 0, 0, 1, 0, 1, 0}, {0, 0, 0, 1, 0, 0, 1}};
        for (int a = 0; a < rows.length; a++) {
            for (int what = 0; what < 7; what++) {
                due("a=" + a + ", what " + what, x.has(a, what), rows[a][what]);
                due("a=" + a + " and more, what " + what, x.has(a + 16 * 15 + 256 * 8, what), rows[a][what]);
            }
        }
        LoopInduction twelve = loop("begin a=0; when 0=0 do a=0; goal a=0; " + "guess a=1; ".repeat(11) + "guess a=2;");
        due("guess 10", twelve.has(2, 14), 0);
        due("guess 11", twelve.has(2, 15), 1);
        due("no guess 12", twelve.has(2, 16), -1);
    }

    // ---- promises 8 and 9

    private static void nextAndRank() {
        CHECKS.sentence("8: NONE: its cond is not had", AnswerEdgeTest::nextNotHad);
        CHECKS.sentence("8: NONE: or none such", AnswerEdgeTest::nextNoneSuch);
        CHECKS.sentence("9: what a STATE's rank is", AnswerEdgeTest::ranks);
        CHECKS.sentence("9: NONE: no STATE, no rank", AnswerEdgeTest::noRank);
    }

    private static void nextNotHad() {
        LoopInduction x = loop("begin a=0; when a<8 do a=a+1; when 7<a do b=b+1; when 0=1 do c=1; goal a=0;");
        for (int a = 0; a < 16; a++) {
            due("below 8", x.next(a, 0), a < 8 ? a + 1 : -1);
            due("above 7", x.next(a, 1), a < 8 ? -1 : a + 16);
            due("never", x.next(a, 2), -1);
        }
    }

    private static void nextNoneSuch() {
        for (int choices = 1; choices <= 6; choices++) {
            LoopInduction x = loop("begin a=0; " + "when 0=0 do a=a+1; ".repeat(choices) + "goal a=0;");
            for (int i = -8; i < 16; i++) {
                due("choice " + i + " of " + choices, x.next(7, i), i >= 0 && i < choices ? 8 : -1);
            }
            for (int i : new int[] {FAR, Integer.MIN_VALUE, 1 << 20, 1 << 28}) {
                due("far", x.next(7, i), -1);
            }
            for (int s : NO_STATES) {
                for (int i = -1; i <= choices; i++) {
                    due("state " + s, x.next(s, i), -1);
                }
            }
        }
    }

    private static void ranks() {
        LoopInduction x = loop(HEAD + "a=0; rank a-b-c;");
        due("0", x.rank(0), 0);
        due("15", x.rank(15), 15);
        due("modulo", x.rank(16), 15);
        due("the last STATE", x.rank(4095), 1);
        due("a number", loop(HEAD + "a=0; rank 15;").rank(4095), 15);
        due("not REACHED", loop(NONE_BEGINS).rank(4095), 15);
    }

    private static void noRank() {
        LoopInduction x = loop(HEAD + "a=0; rank a;");
        for (int s : NO_STATES) {
            due("state " + s, x.rank(s), -1);
        }
        LoopInduction without = loop(HEAD + "a=0;");
        due("without", without.rank(0), -1);
        due("without, the last", without.rank(4095), -1);
        due("then with", Checks.text(without, HEAD + "a=0; rank 3;"), 1);
        due("three", without.rank(0), 3);
        due("then without", Checks.text(without, HEAD + "a=0;"), 1);
        due("without again", without.rank(0), -1);
    }

    // ---- promise 10

    private static void many() {
        CHECKS.sentence("10: another what", AnswerEdgeTest::manyOther);
        CHECKS.sentence("10: 4 the greatest LEVEL (NONE if none is REACHED)", AnswerEdgeTest::greatestLevel);
        CHECKS.sentence("10: 0 begin's, 1 goal's, 2 REACHED, 3 ENDS that are REACHED", AnswerEdgeTest::manyStates);
        CHECKS.sentence("10: 5 pairs of a REACHED STATE and one to which a TURN leads from it", AnswerEdgeTest::pairs);
        CHECKS.sentence("10: 6 with all KEPT guesses", AnswerEdgeTest::withKept);
    }

    private static void manyOther() {
        LoopInduction x = loop(COUNT_UP);
        for (int what : new int[] {-1, 7, 8, -7, 256, FAR, Integer.MIN_VALUE}) {
            due("many " + what, x.many(what), -1);
        }
    }

    private static void greatestLevel() {
        due("none is REACHED", loop(NONE_BEGINS).many(4), -1);
        due("no TURN", loop("begin a=0; when a=1 do a=2; goal a=0;").many(4), 0);
        due("one STATE is REACHED", loop("begin a=0 and b=0 and c=0; when a=1 do a=2; goal a=0;").many(4), 0);
        due("the last STATE alone", loop("begin a=15 and b=15 and c=15; when a=1 do a=2; goal a=0;").many(4), 0);
        due("a circle", loop("begin a=0; when 0=0 do a=a+1; goal a=0;").many(4), 15);
        due("through all", loop(THROUGH_ALL).many(4), 4095);
        due("the least way counts", loop("begin a=0; when a<9 do a=a+1; when a=0 do a=9; goal a=0;").many(4), 8);
    }

    private static void manyStates() {
        LoopInduction none = loop(NONE_BEGINS);
        due("no begin", none.many(0), 0);
        due("goal", none.many(1), 256);
        due("none REACHED", none.many(2), 0);
        due("no ENDS REACHED, though there are ENDS", none.many(3), 0);
        LoopInduction all = loop("begin 0=0; when 0=1 do a=1; goal 0=0;");
        for (int what = 0; what <= 3; what++) {
            due("all", all.many(what), 4096);
        }
        due("LEVEL 0", all.many(4), 0);
        due("no pair", all.many(5), 0);
        due("no goal", loop("begin a=0; when a=0 do a=1; goal 0=1;").many(1), 0);
        LoopInduction some = loop("begin a=0; when a<3 do a=a+1; when a=2 do b=9; when a=7 do a=6; goal a<5;");
        due("begin", some.many(0), 256);
        due("goal", some.many(1), 1280);
        due("reached", some.many(2), 1024);
        due("ends", some.many(3), 256);
    }

    private static void pairs() {
        due("none", loop(NONE_BEGINS).many(5), 0);
        due("a STATE and itself", loop("begin 0=0; when 0=0 do a=a; goal a=0;").many(5), 4096);
        due("six CHOICES alike", loop("begin 0=0; " + "when 0=0 do a=a+1; ".repeat(6) + "goal a=0;").many(5), 4096);
        StringBuilder six = new StringBuilder("begin 0=0; ");
        for (int i = 0; i < 6; i++) {
            six.append("when 0=0 do a=a+").append(i).append("; ");
        }
        due("six CHOICES unlike", loop(six + "goal a=0;").many(5), 6 * 4096);
        due("first and last alike", loop("begin 0=0; when 0=0 do a=a+1; when 0=0 do a=a+2; when 0=0 do a=a+1; goal a=0;").many(5), 2 * 4096);
        due("from REACHED ones alone", loop("begin a=0 and b=0 and c=0; when a<2 do a=a+1; when a=5 do a=6; goal a=0;").many(5), 2);
        due("not had CHOICES are no pair", loop("begin a=0 and b=0 and c=0; when a=1 do a=2; when a=2 do a=3; goal a=0;").many(5), 0);
        due("two to one", loop("begin a<2 and b=0 and c=0; when a<2 do a=2; goal a=0;").many(5), 2);
    }

    private static void withKept() {
        due("no guesses", loop(HEAD + "a=0;").many(6), 4096);
        due("none KEPT", loop(HEAD + "a=0; guess a=1; guess 0=1;").many(6), 4096);
        due("one KEPT", loop(HEAD + "a=0; guess a<4; guess a=1;").many(6), 1024);
        due("two KEPT", loop(COUNT_UP).many(6), 11 * 16);
        due("KEPT, and none has it", loop(NONE_BEGINS).many(6), 0);
    }

    // ---- promises 11 and 12

    private static void level() {
        CHECKS.sentence("11: LEVEL of one: the least number of TURNS", AnswerEdgeTest::levels);
        CHECKS.sentence("11: NONE: it is not REACHED (or no STATE)", AnswerEdgeTest::noLevel);
    }

    private static void levels() {
        LoopInduction x = loop("begin a=0 and b=0 and c=0 or a=6 and b=0 and c=0; when a<15 do a=a+1; when a=1 do a=5; when a=15 do a=0; goal a=0;");
        due("begin's", x.level(0), 0);
        due("begin's though TURNS lead there", x.level(6), 0);
        due("by one", x.level(1), 1);
        due("the shorter way", x.level(5), 2);
        due("the longer way", x.level(4), 4);
        due("from the nearer begin", x.level(15), 9);
        LoopInduction all = loop(THROUGH_ALL);
        due("the last of all", all.level(4095), 4095);
        due("the middle", all.level(2000), 2000);
    }

    private static void noLevel() {
        LoopInduction x = loop(COUNT_UP);
        due("REACHED", x.level(10), 10);
        due("not", x.level(11), -1);
        due("not the last", x.level(4095), -1);
        for (int s : NO_STATES) {
            due("state " + s, x.level(s), -1);
        }
        LoopInduction none = loop(NONE_BEGINS);
        due("none REACHED", none.level(0), -1);
        due("none REACHED by a TURN", none.level(1), -1);
    }

    private static void counter() {
        CHECKS.sentence("12: the shortest RUN to a STATE without goal's cond", AnswerEdgeTest::shortest);
        CHECKS.sentence("12: the least first STATE, of these the least second one, and so on", AnswerEdgeTest::leastRun);
        CHECKS.sentence("12: NONE: no RUN to a STATE without goal's cond", AnswerEdgeTest::noCounter);
        CHECKS.sentence("12: NONE: no i-th STATE", AnswerEdgeTest::noSuchStep);
    }

    private static void shortest() {
        LoopInduction x = loop("begin b=0 and c=0 and [a=0 or a=7]; when a<15 do a=a+1; goal a<10;");
        due("from the nearer begin", x.counter(0), 7);
        due("its last", x.counter(3), 10);
        due("no more", x.counter(4), -1);
        LoopInduction by = loop("begin a=0 and b=0 and c=0; when a<9 do a=a+1; when a=2 do a=8; goal a<9;");
        due("by the short way", by.counter(3), 8);
        due("to the goal's end", by.counter(4), 9);
        due("no more", by.counter(5), -1);
        LoopInduction one = loop("begin a=3; when a=3 do a=4; goal a#3 and a#4;");
        due("at once", one.counter(0), 3);
        due("no further", one.counter(1), -1);
        LoopInduction all = loop(THROUGH_ALL);
        due("4096 STATES, the first", all.counter(0), 0);
        LoopInduction last = loop("begin a=15 and b=15 and c=15; when a=15 and b=15 and c=15 do a=0,b=0,c=0; goal a#0 or b#0 or c#0;");
        due("from the last STATE", last.counter(0), 4095);
        due("to the first", last.counter(1), 0);
        LoopInduction six = loop(manyTurns() + "goal a#15 or b#15 or c#15;");
        due("by the fewest of many TURNS", six.counter(3), 4095);
        due("the least second", six.counter(1), 15);
        due("the least third", six.counter(2), 255);
        due("no more", six.counter(4), -1);
        due("the middle", all.counter(1777), 1777);
        due("the last", all.counter(4095), 4095);
        due("no more", all.counter(4096), -1);
    }

    private static void leastRun() {
        LoopInduction x = loop("begin b=0 and c=0 and [a=5 or a=4]; when a=5 do a=0,b=1; when a=4 do a=9; when a=4 do a=8; when a=0 do a=1;"
            + " when 7<a and a<10 do a=15-a,b=2; goal a#1 and b#2;");
        due("least first, though its second is greater", x.counter(0), 4);
        due("least second, of a later CHOICE, though its third is greater", x.counter(1), 8);
        due("third", x.counter(2), 7 + 32);
        due("no more", x.counter(3), -1);
        LoopInduction order = loop("begin a=0 and b=0 and c=0; when a=0 do b=3,a=1; when a=0 do c=1,a=1; when a=1 do a=2; goal a#2;");
        due("16 b is less than 256 c", order.counter(1), 1 + 48);
        LoopInduction blind = loop("begin a=0 and b=0 and c=0; when a=0 do a=1; when a=0 do a=2; when a=1 do a=1; when a=2 do a=3; goal a#3;");
        due("a lesser one that leads nowhere", blind.counter(1), 2);
        LoopInduction later = loop("begin a=0 and b=0 and c=0; when a=0 do a=1; when a=0 do a=2; when a=1 do a=5; when a=5 do a=3; when a=2 do a=3; goal a#3;");
        due("a lesser one that leads there later", later.counter(1), 2);
        due("its last", later.counter(2), 3);
        LoopInduction third = loop("begin a=0 and b=0 and c=0; when a=0 do a=1; when a=1 do a=9; when a=1 do a=8; when a=1 do a=10;"
            + " when 7<a and a<11 do a=15; goal a#15;");
        due("least third", third.counter(2), 8);
        LoopInduction bad = loop("begin a=0 and b=0 and c=0; when a=0 do a=9; when a=0 do a=8; when a=0 do a=10; goal a<8;");
        due("least last", bad.counter(1), 8);
    }

    private static void noCounter() {
        for (String text : List.of(COUNT_UP, NONE_BEGINS, HEAD + "a<4;", HEAD + "0=0;", "begin a=0; when a=0 do a=0; when a=1 do a=2; goal a#2;")) {
            LoopInduction x = loop(text);
            for (int i : new int[] {-1, 0, 1, 2, 4095, 4096, FAR, Integer.MIN_VALUE}) {
                due("counter " + i, x.counter(i), -1);
            }
        }
        LoopInduction x = loop(THROUGH_ALL);
        due("a RUN there", x.counter(9), 9);
        due("a loop without", Checks.text(x, COUNT_UP), 1);
        due("nothing is left", x.counter(9), -1);
        due("nor the first", x.counter(0), -1);
    }

    private static void noSuchStep() {
        LoopInduction x = loop("begin a=0; when a<5 do a=a+1; goal a#5;");
        due("the last", x.counter(5), 5);
        for (int i : new int[] {-1, 6, 7, 4095, 4096, -4096, FAR, Integer.MIN_VALUE}) {
            due("counter " + i, x.counter(i), -1);
        }
    }

    // ---- promise 13

    private static void induction() {
        CHECKS.sentence("13: the least k (1 .. 16); 0: by none", AnswerEdgeTest::leastK);
        CHECKS.sentence("13: STATES of LEVELS below k have it", AnswerEdgeTest::levelsBelow);
        CHECKS.sentence("13: STRONGLY: all of these k have the KEPT guesses, too", AnswerEdgeTest::strongly);
        CHECKS.sentence("13: another strong", AnswerEdgeTest::strongOther);
    }

    /** From a = from on a goes up to the bad 15, where b is 1; none of this is REACHED. */
    private static String chain(int from, String more) {
        return "begin b=0; when b=1 and " + (from - 1) + "<a and a<15 do a=a+1; " + more + " goal b#1 or a#15;";
    }

    private static void leastK() {
        due("by 1", loop("begin b=0; when b=0 do a=1; goal b=0;").induction(0), 1);
        for (int k = 2; k <= 15; k++) {
            // k - 1 good STATES one behind another lead to the bad one
            due("by " + k, loop(chain(16 - k, "")).induction(0), k);
        }
        due("by 16", loop("begin b=0; when b=1 and a<15 do a=a+1; goal b#1 or a#15;").induction(0), 16);
        due("not by 17", loop("begin b=0; when b=1 and a<15 do a=a+1; when b=2 and a=0 do b=1; goal b#1 or a#15;").induction(0), 0);
        due("not by 18", loop("begin b=0; when b=1 and a<15 do a=a+1; when b=2 and a<2 do b=a+1; goal b#1 or a#15;").induction(0), 0);
        due("by none, around", loop("begin b=0; when b=1 and a=0 do a=0; when b=1 and a=0 do a=1; goal b#1 or a#1;").induction(0), 0);
        due("a bad one leads on, which is nothing", loop("begin b=0; when b=1 do b=2; when b=2 do b=1; goal b=0;").induction(0), 1);
        due("k of them are good", loop("begin b=0; when b=1 do b=2; when b=2 do b=3; when b=3 do b=4; goal b#2 and b#4;").induction(0), 2);
        due("all good", loop(HEAD + "0=0;").induction(0), 1);
        due("the first STATE alone is bad", loop("begin a=9; when a=1 and b=0 and c=0 do a=0; goal a#0 or b#0 or c#0;").induction(0), 2);
        due("the last STATE alone is bad", loop("begin a=9; when a=1 and b=15 and c=15 do a=15; goal a#15 or b#15 or c#15;").induction(0), 2);
        due("the first STATE alone leads to a bad one", loop("begin a=9; when a=0 and b=0 and c=0 do a=1; goal a#1;").induction(0), 2);
        due("the last STATE alone leads to a bad one", loop("begin a=9; when a=15 and b=15 and c=15 do a=1; goal a#1;").induction(0), 2);
        due("the last CHOICE leads to a bad one", loop("begin a=9; when a=2 do a=3; when a=2 do a=1; goal a#1;").induction(0), 2);
        due("the first CHOICE leads to a bad one", loop("begin a=9; when a=2 do a=1; when a=2 do a=3; goal a#1;").induction(0), 2);
    }

    private static void levelsBelow() {
        for (int bad = 0; bad <= 15; bad++) {
            LoopInduction x = loop("begin a=0; when a<15 do a=a+1; goal a#" + bad + ";");
            due("refuted at " + bad, x.induction(0), 0);
            due("strongly, too, at " + bad, x.induction(1), 0);
        }
        due("at begin, and no good one leads to a bad one", loop("begin a=0; when a=0 do a=0; goal 0=1;").induction(0), 0);
        due("one of begin's", loop("begin a<2; when a=9 do a=9; goal a#1;").induction(0), 0);
        due("at LEVEL 1, from a bad one of begin's", loop("begin a=0; when a=0 do a=1; goal 1<a;").induction(0), 0);
        due("where none begins", loop("begin 0=1; when a=0 do a=0; goal 0=1;").induction(0), 1);
        due("where none begins, by 2", loop("begin 0=1; when a=0 do a=1; goal a#1;").induction(0), 2);
        due("a bad one far on", loop(THROUGH_ALL).induction(0), 0);
        due("a bad one far on, strongly", loop(THROUGH_ALL).induction(1), 0);
    }

    private static void strongly() {
        String seven = chain(9, "");
        due("plain", loop(seven).induction(0), 7);
        due("without guesses", loop(seven).induction(1), 7);
        due("a guess that none keeps", loop(seven + "guess a=3;").induction(1), 7);
        due("a KEPT one that forbids all", loop(seven + "guess b=0;").induction(1), 1);
        due("plain with it", loop(seven + "guess b=0;").induction(0), 7);
        due("a KEPT one that leaves two", loop(seven + "guess b#1 or 12<a;").induction(1), 3);
        due("the bad one need not have it", loop("begin b=0; when b=1 do b=2; goal b#2; guess b<2 or 0=1; guess b#2;").induction(1), 2);
        String kept = "begin b=0; when b=1 and a=7 do b=2; when b=2 do b=3; goal b#3; guess b#2;";
        due("a guess that goes", loop(kept).gone(0), 1);
        due("it does not help", loop(kept).induction(1), 3);
        String held = "begin b=0; when b=2 do b=3; when b=1 do b=1; goal b#3; guess b#2; guess b=0 or b=2;";
        due("both are KEPT", loop(held).kept(), 3);
        due("a STATE without it does not count", loop(held).induction(1), 1);
        due("plain it counts", loop(held).induction(0), 2);
        String around = "begin b=0; when b=1 and a=0 do a=0; when b=1 and a=0 do a=1; goal b#1 or a#1;";
        due("by none, yet strongly by 1", loop(around + "guess b=0;").induction(1), 1);
        due("by none", loop(around + "guess b=0;").induction(0), 0);
        String sixteen = "begin b=0; when b=1 and a<15 do a=a+1; when b=2 and a=0 do b=1; goal b#1 or a#15; ";
        due("not by 17", loop(sixteen + "guess 0=0;").induction(1), 0);
        due("by 16", loop(sixteen + "guess b#2;").induction(1), 16);
    }

    private static void strongOther() {
        LoopInduction x = loop(COUNT_UP);
        due("plain", x.induction(0), 1);
        for (int strong : new int[] {-1, 2, 3, 256, FAR, Integer.MIN_VALUE}) {
            due("strong " + strong, x.induction(strong), -1);
        }
    }

    // ---- promises 14 to 16

    private static void guesses() {
        CHECKS.sentence("14: no guesses", AnswerEdgeTest::noGuesses);
        CHECKS.sentence("14: the sum of 2 to the power of their numbers", AnswerEdgeTest::keptSums);
        CHECKS.sentence("15: in ROUND 0 those go that some STATE with begin's cond has not", AnswerEdgeTest::roundNought);
        CHECKS.sentence("15: in each further one those not had behind some TURN from a STATE having all that are left", AnswerEdgeTest::furtherRounds);
        CHECKS.sentence("15: 100 if it is KEPT", AnswerEdgeTest::keptHundred);
        CHECKS.sentence("15: a guess i that is none", AnswerEdgeTest::goneNone);
        CHECKS.sentence("16: whether each STATE that has all KEPT guesses has goal's cond", AnswerEdgeTest::follows);
    }

    private static void noGuesses() {
        LoopInduction x = loop(HEAD + "a<4;");
        due("kept", x.kept(), 0);
        due("gone", x.gone(0), -1);
        due("follows", x.follows(), 0);
        due("many", x.many(6), 4096);
        due("follows where all have the goal", loop(HEAD + "0=0;").follows(), 1);
        LoopInduction had = loop(COUNT_UP);
        due("then none", Checks.text(had, HEAD + "a<4;"), 1);
        due("kept of none", had.kept(), 0);
        due("gone of none", had.gone(0), -1);
    }

    private static void keptSums() {
        for (int g = 0; g < 12; g++) {
            StringBuilder one = new StringBuilder(HEAD + "a<4; ");
            StringBuilder rest = new StringBuilder(HEAD + "a<4; ");
            for (int n = 0; n < 12; n++) {
                one.append(n == g ? "guess a<4; " : "guess a=9; ");
                rest.append(n == g ? "guess a=9; " : "guess a<4; ");
            }
            due("only " + g, loop(one.toString()).kept(), 1 << g);
            due("all but " + g, loop(rest.toString()).kept(), 4095 - (1 << g));
        }
        due("all KEPT", loop(HEAD + "a<4; " + "guess a<4; ".repeat(12)).kept(), 4095);
        due("all of three", loop(HEAD + "a<4; " + "guess a<4; ".repeat(3)).kept(), 7);
        due("none KEPT", loop(HEAD + "a<4; " + "guess a=9; ".repeat(12)).kept(), 0);
    }

    private static void roundNought() {
        LoopInduction x = loop("begin a<4; when a=9 do a=3; goal a=0; guess a<4; guess a<3; guess a#0; guess 0=1; guess 0=0; guess b=0;");
        due("all have it", x.gone(0), 100);
        due("one has it not", x.gone(1), 0);
        due("the first has it not", x.gone(2), 0);
        due("none has it", x.gone(3), 0);
        due("every STATE has it", x.gone(4), 100);
        due("most have it not", x.gone(5), 0);
        due("the first STATE alone begins", loop("begin a=0 and b=0 and c=0; when a=9 do a=3; goal a=0; guess a#0 or b#0 or c#0;").gone(0), 0);
        due("the last STATE alone begins", loop("begin a=15 and b=15 and c=15; when a=9 do a=3; goal a=0; guess a#15 or b#15 or c#15;").gone(0), 0);
        LoopInduction none = loop(NONE_BEGINS);
        due("where none begins, none goes", none.gone(0), 100);
        due("kept", none.kept(), 1);
    }

    private static void furtherRounds() {
        LoopInduction unreached = loop("begin a=0; when a=3 do a=5; goal a=0; guess a<4;");
        due("a TURN from a STATE that is not REACHED", unreached.gone(0), 1);
        LoopInduction held = loop("begin a=0; when a=3 do a=5; goal a=0; guess a<4; guess a#3;");
        due("held up by another guess", held.kept(), 3);
        LoopInduction fallen = loop("begin a=0; when a=3 do a=5; when a=2 do a=3; goal a=0; guess a<4; guess a#3;");
        due("the one that held goes first", fallen.gone(1), 1);
        due("then the other", fallen.gone(0), 2);
        LoopInduction atBegin = loop("begin a=0 or a=3; when a=3 do a=5; goal a=0; guess a<4; guess a#3;");
        due("it goes in ROUND 0", atBegin.gone(1), 0);
        due("then the other in ROUND 1", atBegin.gone(0), 1);
        LoopInduction together = loop("begin a=0; when a=1 do a=9,b=9; goal a=0; guess a<8; guess a<9; guess a<10;");
        due("together", together.gone(0), 1);
        due("in one ROUND", together.gone(1), 1);
        due("but not this", together.gone(2), 100);
        due("a TURN from the first STATE alone", loop("begin a=3; when a=0 and b=0 and c=0 do a=9; goal a=0; guess a#9;").gone(0), 1);
        due("a TURN from the last STATE alone", loop("begin a=3; when a=15 and b=15 and c=15 do a=9; goal a=0; guess a#9;").gone(0), 1);
        due("by the first CHOICE alone", loop("begin a=3; when a=1 do a=9; when a=1 do a=2; goal a=0; guess a#9;").gone(0), 1);
        due("by the last CHOICE alone", loop("begin a=3; when a=1 do a=2; when a=1 do a=9; goal a=0; guess a#9;").gone(0), 1);
        LoopInduction itself = loop("begin a=0; when a=4 do a=5; goal a=0; guess a<4;");
        due("from a STATE without it a TURN is nothing", itself.gone(0), 100);
        StringBuilder twelve = new StringBuilder("begin a=0; when 1<a and a<14 do a=a-1; goal a=0;");
        for (int g = 0; g < 12; g++) {
            twelve.append("guess a#").append(g + 1).append(';');
        }
        LoopInduction rounds = loop(twelve.toString());
        for (int g = 0; g < 12; g++) {
            due("ROUND of " + g, rounds.gone(g), 12 - g);
        }
        due("none is left", rounds.kept(), 0);
    }

    private static void keptHundred() {
        LoopInduction x = loop(HEAD + "a<4; " + "guess a<4; ".repeat(12));
        for (int g = 0; g < 12; g++) {
            due("kept " + g, x.gone(g), 100);
        }
        due("all go", Checks.text(x, HEAD + "a<4; " + "guess a=1; ".repeat(12)), 1);
        due("not kept", x.gone(11), 0);
        due("all come again", Checks.text(x, HEAD + "a<4; " + "guess 0=0; ".repeat(12)), 1);
        due("kept again", x.gone(11), 100);
    }

    private static void goneNone() {
        for (int guesses = 0; guesses <= 12; guesses++) {
            LoopInduction x = loop(HEAD + "a<4; " + "guess a<4; ".repeat(guesses));
            for (int i = -3; i < 20; i++) {
                due("guess " + i + " of " + guesses, x.gone(i), i >= 0 && i < guesses ? 100 : -1);
            }
            due("far", x.gone(FAR), -1);
            due("far below", x.gone(Integer.MIN_VALUE), -1);
        }
    }

    private static void follows() {
        due("it does", loop(HEAD + "a<4; guess a<4;").follows(), 1);
        due("one STATE lacks it", loop(HEAD + "a<4; guess a<5;").follows(), 0);
        due("the last STATE lacks it", loop("begin a=0; when a=0 do a=0; goal a#15 or b#15 or c#15; guess 0=0;").follows(), 0);
        due("the first STATE lacks it", loop("begin a=1; when a=1 do a=1; goal a#0 or b#0 or c#0; guess 0=0;").follows(), 0);
        due("by two together", loop(HEAD + "a<4 and b#5; guess a<4; guess b#5; guess a=9;").follows(), 0);
        due("by two together that are KEPT", loop("begin a=0 and b=0; when a<3 do a=a+1; goal a<4 and b#5; guess a<4; guess b#5;").follows(), 1);
        due("a guess that goes does not help", loop(HEAD + "a<3; guess a<3;").follows(), 0);
        due("where none has them", loop(NONE_BEGINS).follows(), 1);
        due("STATES not REACHED count", loop(HEAD + "a<4; guess a<9;").follows(), 0);
    }

    // ---- promises 17 and 18

    private static void ends() {
        CHECKS.sentence("17: whether the rank is less behind each TURN from a REACHED STATE", AnswerEdgeTest::falls);
        CHECKS.sentence("17: NONE: also without a rank", AnswerEdgeTest::fallsNone);
        CHECKS.sentence("18: how many TURNS the longest RUN has", AnswerEdgeTest::longest);
        CHECKS.sentence("18: 5000 if there are endless ones", AnswerEdgeTest::endless);
        CHECKS.sentence("18: NONE: also if there is no RUN", AnswerEdgeTest::noRun);
    }

    private static void falls() {
        due("it does", loop(HEAD + "a=0; rank 3-a;").falls(), 1);
        due("by more than one", loop(HEAD + "a=0; rank 15-a*5;").falls(), 1);
        due("like is not less", loop(HEAD + "a=0; rank b;").falls(), 0);
        due("it rises", loop(HEAD + "a=0; rank a;").falls(), 0);
        due("0 to 15 is a rise", loop(HEAD + "a=0; rank 2-a;").falls(), 0);
        due("15 to 0 is a fall", loop("begin a=15; when a=15 do a=a+1; goal a=0; rank a;").falls(), 1);
        due("only one of two CHOICES", loop("begin a=0; when a<3 do a=a+1; when a=2 do b=1; goal a=0; rank 3-a;").falls(), 0);
        due("only the last TURN", loop("begin a=0; when a<3 do a=a+1; when a=3 do a=4; goal a=0; rank 3-a;").falls(), 0);
        due("from one that is not REACHED", loop("begin a=0; when a<3 do a=a+1; when a=4 do a=4; goal a=0; rank 3-a;").falls(), 1);
        due("no TURN", loop("begin a=0; when a=1 do a=1; goal a=0; rank a;").falls(), 1);
        due("none REACHED", loop("begin 0=1; when 0=0 do a=a; goal a=0; rank a;").falls(), 1);
    }

    private static void fallsNone() {
        due("without", loop(HEAD + "a=0;").falls(), -1);
        due("without TURNS", loop("begin 0=1; when 0=1 do a=1; goal a=0;").falls(), -1);
        LoopInduction x = loop(COUNT_UP);
        due("with", x.falls(), 1);
        due("then without", Checks.text(x, HEAD + "a=0;"), 1);
        due("none", x.falls(), -1);
    }

    private static void longest() {
        due("no TURN", loop("begin a=0; when a=1 do a=2; goal a=0;").longest(), 0);
        due("one", loop("begin a=0; when a=0 do a=2; goal a=0;").longest(), 1);
        due("through all", loop(THROUGH_ALL).longest(), 4095);
        due("the longer way", loop("begin a=0; when a<9 do a=a+1; when a=0 do a=8; goal a=0;").longest(), 9);
        due("the longer way last", loop("begin a=0; when a=0 do a=8; when a<9 do a=a+1; goal a=0;").longest(), 9);
        due("from the farther begin", loop("begin a=7 or a=2; when a<9 do a=a+1; goal a=0;").longest(), 7);
        due("the longest ends before the last of STATES", loop("begin a=0 and b=0 and c=0; when a=0 do b=9,a=9; when a=0 do a=1; when a=1 do a=2; goal a=0;").longest(), 2);
    }

    private static void endless() {
        due("to itself", loop("begin a=0; when a=0 do a=a; goal a=0;").longest(), 5000);
        due("to and fro", loop("begin a=0; when a=0 do a=1; when a=1 do a=0; goal a=0;").longest(), 5000);
        due("far on", loop(THROUGH_ALL.replace("goal", "when a=15 and b=15 and c=15 do a=14; goal")).longest(), 5000);
        due("through all and around", loop("begin a=0 and b=0 and c=0; when a#15 do a=a+1; when a=15 and b#15 do a=0,b=b+1;"
            + " when a=15 and b=15 do a=0,b=0,c=c+1; goal a=0;").longest(), 5000);
        due("beside one that ends", loop("begin a<2; when a=1 do a=2; when a=0 do a=0; goal a=0;").longest(), 5000);
        due("by a choice only", loop("begin a=0; when a<3 do a=a+1; when a=3 do a=0; when a=3 do a=4; goal a=0;").longest(), 5000);
        due("not REACHED", loop("begin a=0; when a=0 do a=1; when a=2 do a=2; goal a=0;").longest(), 1);
        due("not REACHED, but it leads here", loop("begin a=0; when a=0 do a=1; when a=2 do a=2; when a=2 do a=1; goal a=0;").longest(), 1);
    }

    private static void noRun() {
        due("none begins", loop(NONE_BEGINS).longest(), -1);
        due("none begins, endless TURNS", loop("begin 0=1; when 0=0 do a=a; goal a=0;").longest(), -1);
        due("a RUN of one STATE is one", loop("begin a=15 and b=15 and c=15; when 0=1 do a=a; goal a=0;").longest(), 0);
    }

    // ---- promise 19

    private static void ask() {
        CHECKS.sentence("19: NONE: another kind (the tape stays)", AnswerEdgeTest::askOther);
        CHECKS.sentence("19: NONE: no LOOP", AnswerEdgeTest::askNoLoop);
        CHECKS.sentence("19: -2 with a FAULT", AnswerEdgeTest::askFault);
        CHECKS.sentence("19: the tape is a cond, and is empty then", AnswerEdgeTest::askEmpty);
        CHECKS.sentence("19: 0 that have it; 1 REACHED ones that have it", AnswerEdgeTest::askHave);
        CHECKS.sentence("19: 2 from which TURNS (or none) can lead to one that has it", AnswerEdgeTest::askSome);
        CHECKS.sentence("19: 3 from which all do (none goes on for ever, or ends, without having met one)", AnswerEdgeTest::askAll);
        CHECKS.sentence("19: 4 from which no TURNS (nor none) lead to one that has it not", AnswerEdgeTest::askAlways);
        CHECKS.sentence("19: the LOOP stays as it is", AnswerEdgeTest::askLeaves);
    }

    private static void askOther() {
        for (int kind : new int[] {-1, 5, 6, -5, 256, FAR, Integer.MIN_VALUE}) {
            LoopInduction x = loop(COUNT_UP);
            due("kind " + kind, Checks.ask(x, "a=10", kind), -1);
            due("again", x.ask(kind), -1);
            due("the tape stays", x.feed(0x20202020, 0x20202020, 0x20202020, 0x20202020, 0x20202020), 24);
            due("and is read", x.ask(2), 2816);
            due("kind " + kind + " of a fault", Checks.ask(x, "a=?", kind), -1);
            due("which is told then", x.ask(0), -2);
            due("kind " + kind + " of nothing", x.ask(kind), -1);
        }
    }

    private static void askNoLoop() {
        LoopInduction x = new LoopInduction();
        for (int kind = -1; kind <= 5; kind++) {
            due("kind " + kind, x.ask(kind), -1);
        }
        due("with a cond", Checks.ask(x, "a=0", 0), -1);
        due("the tape stays", x.text(), -2);
        due("a cond is no LOOP", x.place(), 0);
        LoopInduction faulty = new LoopInduction();
        due("fault", Checks.text(faulty, HEAD), -2);
        due("still none", Checks.ask(faulty, "a=0", 0), -1);
    }

    private static void askFault() {
        for (String cond : List.of("", " ", "\n", "a", "a=", "a=0;", "a=0 b", "a=16", "a=00", "d=0", "a=0 or", "not", "[a=0", "a=0]", "(a=0)",
            "a=0 and begin", "begin a=0", "goal a=0;", "a=1,", "a<b<c", "a=0?", "a>0", "-", "or a=0", "a=0 \t", "A=0")) {
            for (int kind = 0; kind <= 4; kind++) {
                LoopInduction x = loop(COUNT_UP);
                due("kind " + kind + " of " + cond, Checks.ask(x, cond, kind), -2);
                due("empty then", x.end(0), -1);
                due("from the start", Checks.ask(x, "a=10", kind), new int[] {256, 1, 2816, 2816, 256}[kind]);
            }
        }
    }

    private static void askEmpty() {
        for (int kind = 0; kind <= 4; kind++) {
            LoopInduction x = loop(COUNT_UP);
            due("all", Checks.ask(x, "0=0 and 1=1 and 2=2 and 3=3", kind), kind == 1 ? 11 : 4096);
            due("nothing to cut", x.end(20), -1);
            due("nothing to ask", x.ask(kind), -2);
            due("from the start", x.feed(0x20202020, 0x20202020, 0x20202020, 0x20202020, 0x20202020), 20);
        }
        LoopInduction full = loop(COUNT_UP);
        due("1200 bytes", Checks.ask(full, "a" + " ".repeat(1197) + "=0", 0), 256);
        due("room again", full.feed(0, 0, 0, 0, 0), 20);
    }

    private static void askHave() {
        LoopInduction x = loop(COUNT_UP);
        due("none", Checks.ask(x, "0=1", 0), 0);
        due("one", Checks.ask(x, "a=15 and b=15 and c=15", 0), 1);
        due("all but one", Checks.ask(x, "a#0 or b#0 or c#0", 0), 4095);
        due("all", Checks.ask(x, "a=a", 0), 4096);
        due("modulo", Checks.ask(x, "a+1=0", 0), 256);
        due("REACHED, none", Checks.ask(x, "b=1", 1), 0);
        due("REACHED, some", Checks.ask(x, "a<4 or c=9", 1), 4);
        due("REACHED, all", Checks.ask(x, "a=a", 1), 11);
        due("where none is REACHED", Checks.ask(loop(NONE_BEGINS), "0=0", 1), 0);
    }

    private static void askSome() {
        LoopInduction x = loop("begin 0=1; when a<4 do a=a+1; when a=2 do a=9; when a=9 do a=9; when a=11 do a=12; when a=12 do a=11; goal a=0;");
        due("none has it", Checks.ask(x, "0=1", 2), 0);
        due("by none: an END", Checks.ask(x, "a=15", 2), 256);
        due("by several", Checks.ask(x, "a=4", 2), 5 * 256);
        due("by a choice", Checks.ask(x, "a=9", 2), 4 * 256);
        due("around", Checks.ask(x, "a=11", 2), 512);
        due("what it has already", Checks.ask(x, "a=0", 2), 256);
        due("all", Checks.ask(x, "0=0", 2), 4096);
        due("far", Checks.ask(loop(THROUGH_ALL), "a=15 and b=15 and c=15", 2), 4096);
        due("far back", Checks.ask(loop(THROUGH_ALL), "a=0 and b=0 and c=0", 2), 1);
        due("two ways count once", Checks.ask(x, "a=4 or a=9", 2), 6 * 256);
        due("many TURNS", Checks.ask(loop(manyTurns() + "goal a=0;"), "a=15 and b=15 and c=15", 2), 4096);
        LoopInduction last = loop("begin a=0; when a=15 and b=15 and c=15 do a=0,b=0,c=0; goal a=0;");
        due("from the last STATE to the first", Checks.ask(last, "a=0 and b=0 and c=0", 2), 2);
    }

    private static void askAll() {
        LoopInduction x = loop("begin 0=1; when a<4 do a=a+1; when a=2 do a=9; when a=9 do a=9; when a=11 do a=12; when a=12 do a=11;"
            + " when a=12 do a=13; goal a=0;");
        due("none has it", Checks.ask(x, "0=1", 3), 0);
        due("it ends without", Checks.ask(x, "a=3", 3), 256);
        due("it goes another way", Checks.ask(x, "a=4", 3), 2 * 256);
        due("both ways", Checks.ask(x, "a=4 or a=9", 3), 6 * 256);
        due("for ever without", Checks.ask(x, "a=13", 3), 256);
        due("for ever, having met one", Checks.ask(x, "a=12", 3), 512);
        due("the first it has", Checks.ask(x, "a=2", 3), 3 * 256);
        due("all", Checks.ask(x, "0=0", 3), 4096);
        due("far", Checks.ask(loop(THROUGH_ALL), "a=15 and b=15 and c=15", 3), 4096);
        due("two CHOICES to one STATE", Checks.ask(loop("begin a=0; when a=0 do a=1; when a=0 do a=1; goal a=0;"), "a=1", 3), 512);
        due("to itself, or on", Checks.ask(loop("begin a=0; when a=0 do a=0; when a=0 do a=1; goal a=0;"), "a=1", 3), 256);
        due("of many TURNS some go round without", Checks.ask(loop(manyTurns() + "goal a=0;"), "a#3 or b#3", 3), 4096 - 16);
        due("many TURNS", Checks.ask(loop(manyTurns() + "goal a=0;"), "a=15 and b=15 and c=15", 3), 1);
        LoopInduction last = loop("begin a=0; when a=15 and b=15 and c=15 do a=0,b=0,c=0; goal a=0;");
        due("from the last STATE to the first", Checks.ask(last, "a=0 and b=0 and c=0", 3), 2);
        due("every END, and what comes to one", Checks.ask(loop("begin a=0; when a<4 do a=a+1; when a=5 do a=5; goal a=0;"), "a=4 or 5<a", 3), 15 * 256);
    }

    private static void askAlways() {
        LoopInduction x = loop("begin 0=1; when a<4 do a=a+1; when a=2 do a=9; when a=9 do a=9; when a=11 do a=12; when a=12 do a=11; goal a=0;");
        due("none has it", Checks.ask(x, "0=1", 4), 0);
        due("all", Checks.ask(x, "0=0", 4), 4096);
        due("an END", Checks.ask(x, "a=15", 4), 256);
        due("it has it not itself", Checks.ask(x, "a=4 or a=9", 4), 512);
        due("one way leads away", Checks.ask(x, "a=2 or a=3 or a=4", 4), 512);
        due("no way leads away", Checks.ask(x, "1<a and a<10", 4), 8 * 256);
        due("around", Checks.ask(x, "a=11 or a=12", 4), 512);
        due("not around", Checks.ask(x, "a=11", 4), 0);
        due("far", Checks.ask(loop(THROUGH_ALL), "a#15 or b#15 or c#15", 4), 0);
        due("not the first", Checks.ask(loop(THROUGH_ALL), "a#0 or b#0 or c#0", 4), 4095);
        due("many TURNS", Checks.ask(loop(manyTurns() + "goal a=0;"), "a#15 or b#15 or c#15", 4), 0);
        LoopInduction last = loop("begin a=0; when a=15 and b=15 and c=15 do a=0,b=0,c=0; goal a=0;");
        due("the last STATE leads to the first", Checks.ask(last, "a#0 or b#0 or c#0", 4), 4094);
    }

    private static void askLeaves() {
        LoopInduction x = loop(COUNT_UP);
        for (String cond : List.of("a=3", "not b=0 or c=1", "a=?", "", "0=0", "0=1")) {
            for (int kind = 0; kind <= 4; kind++) {
                Checks.ask(x, cond, kind);
            }
        }
        due("choices", x.told(0), 1);
        due("guesses", x.told(1), 3);
        due("unaries", x.told(2), 6 + 4 + 2 + 6 + 2);
        due("rank", x.told(3), 1);
        due("begin", x.many(0), 1);
        due("goal", x.many(1), 11 * 256);
        due("reached", x.many(2), 11);
        due("level", x.level(10), 10);
        due("next", x.next(9, 0), 10);
        due("counter", x.counter(0), -1);
        due("kept", x.kept(), 3);
        due("induction", x.induction(0), 1);
        due("longest", x.longest(), 10);
        due("falls", x.falls(), 1);
        due("place", x.place(), -1);
    }

    // ---- what it is

    private static void manyCalls() {
        CHECKS.sentence("an object is used for at most 512 calls", AnswerEdgeTest::fiveHundredAndTwelve);
        CHECKS.sentence("the same calls always give the same answers", AnswerEdgeTest::again);
    }

    /** All 512 calls are used, most of them the dearest ones. */
    private static void fiveHundredAndTwelve() {
        LoopInduction x = new LoopInduction();
        int calls = 0;
        for (int n = 0; n < 60; n++) {
            due("feed", x.feed(0x613d3020, 0x20202020, 0x20202020, 0x20202020, 0x20202020), 20);
            due("no text", x.text(), -2);
            calls += 2;
        }
        Checks.put(x, THROUGH_ALL + " ".repeat(200 - THROUGH_ALL.length()));
        calls += 10;
        due("text", x.text(), 1);
        calls++;
        for (; calls + 6 <= 512; calls += 6) {
            due("feed", x.feed(0x613d3020, 0x20202020, 0x20202020, 0x20202020, 0x20202020), 20);
            due("ask", x.ask(3), 4081);
            due("longest", x.longest(), 4095);
            due("induction", x.induction(1), 0);
            due("pairs", x.many(5), 4095);
            due("counter", x.counter(4095), 4095);
        }
    }

    private static void again() {
        LoopInduction x = loop(COUNT_UP);
        LoopInduction other = loop(THROUGH_ALL);
        for (int n = 0; n < 5; n++) {
            due("longest", x.longest(), 10);
            due("of another object", other.longest(), 4095);
            due("induction", x.induction(0), 1);
            due("of another object", other.induction(0), 0);
            due("kept", x.kept(), 3);
            due("counter", other.counter(100), 100);
            due("none", x.counter(0), -1);
            due("pairs", x.many(5), 10);
            due("of another object", other.many(5), 4095);
        }
    }
}
