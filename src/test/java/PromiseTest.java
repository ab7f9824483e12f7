/** Each promise by hand: ordinary inputs, the edges that the document names, wrong inputs. */
public final class PromiseTest {
    private static final Checks CHECKS = new Checks();
    private static final String COUNT_UP =
        "begin a=0 and b=0 and c=0; when a<10 do a=a+1; goal a<11; guess a<11; guess b=0; guess a<5; rank 10-a;";
    private static final String HEAD = "begin a=0; when a<3 do a=a+1; goal ";

    private static void due(String what, long got, long want) {
        CHECKS.due(what, got, want);
    }

    public static void main(String[] args) {
        newObject();
        noLoop(new LoopInduction());
        feed();
        end();
        text();
        tokens();
        limits();
        told();
        has();
        next();
        rank();
        many();
        level();
        counter();
        induction();
        guesses();
        follows();
        falls();
        longest();
        ask();
        CHECKS.finish("PromiseTest");
    }

    private static void newObject() {
        LoopInduction x = new LoopInduction();
        due("1 place", x.place(), -1);
        due("1 told", x.told(0), -1);
        due("1 end", x.end(0), -1);
        due("1 first feed", x.feed(0, 0, 0, 0, 0), 20);
        due("1 ask keeps the tape without a loop", x.ask(0), -1);
        due("1 tape", x.feed(0, 0, 0, 0, 0), 40);
        due("1 NONE", LoopInduction.NONE, -1);
        LoopInduction other = Checks.loop(COUNT_UP);
        due("1 objects are apart", x.told(0), -1);
        due("1 other", other.told(0), 1);
    }

    private static void noLoop(LoopInduction x) {
        for (int n = -1; n <= 5; n++) {
            due("6 no loop", x.told(n), -1);
            due("7 no loop", x.has(0, n), -1);
            due("8 no loop", x.next(0, n), -1);
            due("9 no loop", x.rank(n), -1);
            due("10 no loop", x.many(n), -1);
            due("11 no loop", x.level(n), -1);
            due("12 no loop", x.counter(n), -1);
            due("13 no loop", x.induction(n), -1);
            due("15 no loop", x.gone(n), -1);
            due("19 no loop", x.ask(n), -1);
        }
        due("14 no loop", x.kept(), -1);
        due("16 no loop", x.follows(), -1);
        due("17 no loop", x.falls(), -1);
        due("18 no loop", x.longest(), -1);
        due("4 a fault is no loop", Checks.text(x, "begin a=0;"), -2);
        due("6 still none", x.told(0), -1);
    }

    private static void feed() {
        LoopInduction x = new LoopInduction();
        for (int n = 1; n <= 60; n++) {
            due("2 feed " + n, x.feed(0x20202020, 0x20202020, 0x20202020, 0x20202020, 0x20202020), 20 * n);
        }
        due("2 full", x.feed(-1, -1, -1, -1, -1), -1);
        due("2 still full", x.feed(-1, -1, -1, -1, -1), -1);
        due("2 none came", x.end(20), 1200);
        due("2 cut", x.end(19), 1199);
        due("2 does not fit", x.feed(-1, -1, -1, -1, -1), -1);
        due("2 cut again", x.end(1), 1180);
        due("2 fits to the last byte", x.feed(0, 0, 0, 0, 0), 1200);
        due("2 text", x.text(), -2);
        due("2 blanks up to the byte 0", x.place(), 1180);
        // the bytes' order: 'begin a=' is followed by a strange byte as the last of the third number
        due("2 order", x.feed(0x62656769, 0x6e20613d, 0x303b0a80, 0x20202020, 0x20202020), 20);
        due("2 order text", x.text(), -2);
        due("2 order place", x.place(), 11);
    }

    private static void end() {
        LoopInduction x = new LoopInduction();
        x.feed(0, 0, 0, 0, 0);
        due("3 below", x.end(-1), -1);
        due("3 above", x.end(21), -1);
        due("3 far", x.end(Integer.MIN_VALUE), -1);
        due("3 all stay", x.end(20), 20);
        due("3 nineteen", x.end(19), 19);
        due("3 not twenty", x.end(5), -1);
        due("3 feed", x.feed(0, 0, 0, 0, 0), 39);
        due("3 none stays", x.end(0), 19);
        due("3 not twenty again", x.end(0), -1);
        Checks.put(x, " ");
        due("3 twenty again", x.end(0), 0);
        due("3 empty", x.end(0), -1);
    }

    private static void text() {
        LoopInduction x = new LoopInduction();
        due("4 empty", x.text(), -2);
        due("5 empty", x.place(), 0);
        due("4 loop", Checks.text(x, COUNT_UP), 1);
        due("5 no fault", x.place(), -1);
        due("4 tape is empty", x.feed(0, 0, 0, 0, 0), 20);
        due("4 strange", x.text(), -2);
        due("5 strange", x.place(), 0);
        due("4 tape is empty with a fault, too", x.feed(0, 0, 0, 0, 0), 20);
        x.end(0);
        due("4 the loop before stays", x.told(1), 3);
        due("4 its states, too", x.many(2), 11);
        due("4 longer fault", Checks.text(x, "begin b=1; when b<2 do a=1; goal a=0; rank"), -2);
        due("5 at the length", x.place(), 42);
        due("4 still counts up", x.many(0), 1);
        due("4 its choice stays", x.next(0, 0), 1);
        due("4 its guesses stay", x.kept(), 3);
        due("4 its rank stays", x.rank(3), 7);
        due("5 ask leaves the place", Checks.ask(x, "?", 0), -2);
        due("5 place of the latest text", x.place(), 42);
        due("4 another", Checks.text(x, HEAD + "a<4;"), 1);
        due("5 none again", x.place(), -1);
        due("4 in place of the one before", x.told(1), 0);
        due("4 no rank left over", x.rank(3), -1);
        due("4 told rank", x.told(3), 0);
        due("4 no guess left over", x.has(0, 4), -1);
    }

    private static void tokens() {
        CHECKS.good("\n begin a=0;when 1<2do a=1,b=2\n,c=3;goal not[a=b]or c#1and 2<3 ;rank-1*(a- -b); \n");
        CHECKS.good(HEAD + "a=15and b=0;");
        CHECKS.good(HEAD + "0=0; guess 1=1; guess 10=10;");
        CHECKS.faultAt("^bgin a=0;");
        CHECKS.faultAt("^begina=0;");
        CHECKS.faultAt("^Begin a=0;");
        CHECKS.faultAt("^beginX a=0;");
        CHECKS.faultAt("^beginA a=0;");
        CHECKS.faultAt("^beginZ a=0;");
        CHECKS.faultAt("^beginz a=0;");
        CHECKS.faultAt("begin^@ a=0;");
        CHECKS.faultAt("begin^` a=0;");
        CHECKS.faultAt("begin^{ a=0;");
        CHECKS.faultAt("begin^/");
        CHECKS.faultAt("begin a=0^:");
        CHECKS.faultAt("begin ^d=0;");
        CHECKS.faultAt("begin ^ab=0;");
        CHECKS.faultAt("begin a^1=0;");
        CHECKS.faultAt("begin a=^16;");
        CHECKS.faultAt("begin a=^00;");
        CHECKS.faultAt("begin a=^07;");
        CHECKS.faultAt("begin a=^4294967296;");
        CHECKS.faultAt("begin a=^18446744073709551616;");
        CHECKS.faultAt("begin a=1^ 1;".replace("^ ", " ^"));
        CHECKS.faultAt("begin a^\t=0;");
        CHECKS.faultAt("begin a^\r=0;");
        CHECKS.faultAt("begin a=0^>1;");
        CHECKS.faultAt("begin a=0^\u00e9;");
        CHECKS.faultAt("begin a=0^\u0000;");
        CHECKS.faultAt("begin ^;");
        CHECKS.faultAt("begin a^;");
        CHECKS.faultAt("begin a^ ;".replace("^ ", " ^"));
        CHECKS.faultAt("begin a=0^]");
        CHECKS.faultAt("begin [a=0^)");
        CHECKS.faultAt("begin (a^=0)");
        CHECKS.faultAt("begin (a^]");
        CHECKS.faultAt("begin (a+1)*2=0 ^(");
        CHECKS.faultAt("begin a=0=1".replace("=1", "^=1"));
        CHECKS.faultAt("begin a=0 ^not");
        CHECKS.faultAt("begin not ^or");
        CHECKS.faultAt("begin a<^<");
        CHECKS.faultAt("begin a+^+");
        CHECKS.faultAt("begin a*^*");
        CHECKS.faultAt("begin a-^ ;".replace("^ ", " ^"));
        CHECKS.faultAt("begin ^[]".replace("^[", "[^"));
        CHECKS.faultAt("begin a=0; ^goal");
        CHECKS.faultAt("begin a=0; ^begin");
        CHECKS.faultAt("begin a=0; when a=0 ^;");
        CHECKS.faultAt("begin a=0; when a=0 do ^;");
        CHECKS.faultAt("begin a=0; when a=0 do ^1");
        CHECKS.faultAt("begin a=0; when a=0 do a^<");
        CHECKS.faultAt("begin a=0; when a=0 do a=^[");
        CHECKS.faultAt("begin a=0; when a=0 do a=b^=c");
        CHECKS.faultAt("begin a=0; when a=0 do a=b,^;");
        CHECKS.faultAt("begin a=0; when a=0 do a=b ^goal");
        CHECKS.faultAt(HEAD + "a=0; ^when");
        CHECKS.faultAt(HEAD + "a=0; ^goal");
        CHECKS.faultAt(HEAD + "a=0; ^;");
        CHECKS.faultAt(HEAD + "a=0; rank a^<");
        CHECKS.faultAt(HEAD + "a=0; rank a; ^rank");
        CHECKS.faultAt(HEAD + "a=0; rank a; ^guess");
        CHECKS.faultAt(HEAD + "a=0; guess ^;");
        CHECKS.faultAt("begin a=0 \n ^");
        CHECKS.faultAt("begin a=0;^");
        CHECKS.faultAt("  ^");
        CHECKS.faultAt(HEAD + "a=0^");
        CHECKS.faultAt(HEAD + "a=0; rank (a) ^");
    }

    private static void limits() {
        String choice = "when a=0 do a=1; ";
        CHECKS.good("begin a=0; " + choice.repeat(6) + "goal a=0;");
        CHECKS.faultAt("begin a=0; " + choice.repeat(6) + "^" + choice + "goal a=0;");
        CHECKS.good(HEAD + "a=0; " + "guess a=0; ".repeat(12));
        CHECKS.good(HEAD + "a=0; " + "guess a=0; ".repeat(12) + "rank a;");
        CHECKS.faultAt(HEAD + "a=0; " + "guess a=0; ".repeat(12) + "^guess a=0;");
        CHECKS.good("begin a=0; when a=0 do c=a,a=b,b=c; goal a=0;");
        CHECKS.faultAt("begin a=0; when a=0 do a=1,^a=2; goal a=0;");
        CHECKS.faultAt("begin a=0; when a=0 do a=1,b=1,c=1,^b=2; goal a=0;");
        CHECKS.good("begin a=0; when a=0 do a=1; when a=0 do a=1; goal a=0;");
        // HEAD has 6 unaries
        CHECKS.good(HEAD + "a=" + "1+".repeat(92) + "1;");
        CHECKS.faultAt(HEAD + "a=" + "1+".repeat(93) + "^1;");
        CHECKS.faultAt(HEAD + "a=" + "1+".repeat(93) + "^-1;");
        CHECKS.faultAt(HEAD + "a=" + "1+".repeat(92) + "-^1;");
        CHECKS.faultAt(HEAD + "a=" + "1+".repeat(93) + "^(1);");
        CHECKS.faultAt(HEAD + "a=" + "1+".repeat(92) + "(^1);");
        CHECKS.faultAt(HEAD + "a=" + "1+".repeat(93) + "^;");
        CHECKS.good(HEAD + "not ".repeat(8) + "a=0;");
        CHECKS.faultAt(HEAD + "not ".repeat(8) + "^not a=0;");
        CHECKS.good(HEAD + "[".repeat(8) + "a=0" + "]".repeat(8) + ";");
        CHECKS.faultAt(HEAD + "[".repeat(8) + "^[a=0");
        CHECKS.good(HEAD + "-".repeat(8) + "a=0 and " + "-".repeat(8) + "b-0-0=0;");
        CHECKS.faultAt(HEAD + "-".repeat(8) + "^-a=0;");
        CHECKS.good(HEAD + "0=" + "(".repeat(8) + "a" + ")".repeat(8) + ";");
        CHECKS.faultAt(HEAD + "0=" + "(".repeat(8) + "^(a");
        CHECKS.good(HEAD + "not [not [-(-(a-b))=0]] or not [not [-(-(a))=0]];");
        CHECKS.faultAt(HEAD + "not [not [-(-(^-a))=0]];");
        CHECKS.faultAt(HEAD + "not [not [not [not [a=^(a");
        CHECKS.good(HEAD + "not [not [not [not [a=a-1]]]];");
        LoopInduction x = new LoopInduction();
        String all = HEAD + "a<4;";
        due("4 a text of 1200 bytes", Checks.text(x, all + " ".repeat(1200 - all.length())), 1);
        due("4 a fault at 1200", Checks.text(x, HEAD + " ".repeat(1200 - HEAD.length())), -2);
        due("5 at 1200", x.place(), 1200);
        due("19 a cond has 100 unaries", Checks.ask(x, "a=" + "0+".repeat(98) + "0", 0), 256);
        due("19 not 101", Checks.ask(x, "a=" + "0+".repeat(99) + "0", 0), -2);
        due("19 the unaries told stay", x.told(2), 8);
    }

    private static void told() {
        LoopInduction x = Checks.loop("begin a=0; when -(a)=0 do b=-1; when a=0 do a=(b*c); goal a=0; guess a=1;");
        due("6 choices", x.told(0), 2);
        due("6 guesses", x.told(1), 1);
        due("6 unaries", x.told(2), 2 + 4 + 2 + 2 + 3 + 2 + 2);
        due("6 no rank", x.told(3), 0);
        due("6 other", x.told(4), -1);
        due("6 below", x.told(-1), -1);
        due("6 rank", Checks.loop(COUNT_UP).told(3), 1);
        String choice = "when a=0 do a=1; ";
        LoopInduction full = Checks.loop("begin a=0; " + choice.repeat(6) + "goal a=0; " + "guess a=0; ".repeat(12));
        due("6 six choices", full.told(0), 6);
        due("6 twelve guesses", full.told(1), 12);
        due("6 the sixth choice", full.next(0, 5), 1);
        due("6 no seventh", full.next(0, 6), -1);
        due("6 the twelfth guess", full.has(1, 15), 0);
        due("6 no thirteenth", full.has(1, 16), -1);
        due("6 it went", full.gone(11), 1);
        due("6 not told", full.gone(12), -1);
    }

    private static int holds(String cond, int s) {
        return Checks.loop("begin " + cond + "; when a=0 do a=1; goal a=0;").has(s, 0);
    }

    private static void has() {
        LoopInduction x = Checks.loop(COUNT_UP);
        due("7 begin", x.has(0, 0), 1);
        due("7 not begin", x.has(16, 0), 0);
        due("7 goal", x.has(4090, 1), 1);
        due("7 not goal", x.has(11, 1), 0);
        due("7 reached", x.has(10, 2), 1);
        due("7 not reached", x.has(11, 2), 0);
        due("7 end that is not reached", x.has(4095, 3), 1);
        due("7 no end", x.has(4089, 3), 0);
        due("7 guess", x.has(4, 6), 1);
        due("7 not guess", x.has(5, 6), 0);
        due("7 no such guess", x.has(5, 7), -1);
        due("7 below", x.has(0, -1), -1);
        due("7 far", x.has(0, 32), -1);
        due("7 state below", x.has(-1, 1), -1);
        due("7 state above", x.has(4096, 1), -1);
        due("7 far state", x.has(Integer.MAX_VALUE, 1), -1);
        int s = 3 + 16 * 5 + 256 * 14;
        due("7 a", holds("a=3", s), 1);
        due("7 b", holds("b=5", s), 1);
        due("7 c", holds("c=14", s), 1);
        due("7 less", holds("a<b", s), 1);
        due("7 not less", holds("b<a", s), 0);
        due("7 not less than itself", holds("a<a", s), 0);
        due("7 unlike", holds("a#b", s), 1);
        due("7 sum modulo", holds("c+a=1", s), 1);
        due("7 difference modulo", holds("a-b=c", s), 1);
        due("7 from the left", holds("a-b-c=0", s), 1);
        due("7 product modulo", holds("a*b*c=2", s), 1);
        due("7 product binds", holds("a+b*2=13", s), 1);
        due("7 brackets", holds("(a+b)*2=0", s), 1);
        due("7 minus", holds("-a=13", s), 1);
        due("7 minus binds", holds("-a*b=1", s), 1);
        due("7 minus zero", holds("-0=0", s), 1);
        due("7 each step", holds("c+c<c", s), 1);
        due("7 not binds", holds("not a=3 or b=5", s), 1);
        due("7 not of a bracket", holds("not [a=3 or b=5]", s), 0);
        due("7 not not", holds("not not a=3", s), 1);
        due("7 and binds", holds("a=3 or b=5 and c=0", s), 1);
        due("7 or in a bracket", holds("[a=3 or b=5] and c=0", s), 0);
        due("7 and behind or", holds("c=0 and a=3 or b=4", s), 0);
    }

    private static void next() {
        LoopInduction x = Checks.loop(
            "begin a=0; when a<b do a=b,b=a; when c=0 do c=c-1,a=a*a; goal a=0;");
        due("8 at once", x.next(2 + 16 * 5, 0), 5 + 16 * 2);
        due("8 not told stays", x.next(2 + 16 * 5 + 256 * 7, 0), 5 + 16 * 2 + 256 * 7);
        due("8 not had", x.next(5 + 16 * 5, 0), -1);
        due("8 modulo", x.next(5 + 16 * 6, 1), 9 + 16 * 6 + 256 * 15);
        due("8 no such choice", x.next(0, 2), -1);
        due("8 below", x.next(0, -1), -1);
        due("8 far", x.next(0, Integer.MAX_VALUE), -1);
        due("8 state above", x.next(4096, 1), -1);
        due("8 state below", x.next(-1, 1), -1);
    }

    private static void rank() {
        LoopInduction x = Checks.loop("begin a=0; when a=0 do a=1; goal a=0; rank 10-a+2*c;");
        due("9 ordinary", x.rank(3), 7);
        due("9 modulo", x.rank(12), 14);
        due("9 c", x.rank(256 * 3), 0);
        due("9 above", x.rank(4096), -1);
        due("9 below", x.rank(-1), -1);
        due("9 without", Checks.loop(HEAD + "a=0;").rank(0), -1);
    }

    private static void many() {
        LoopInduction x = Checks.loop("begin a<2 and b=0 and c=0; when a<2 do a=2; when a=0 do a=2;"
            + " when a=2 do b=1; when b=1 do c=c; goal a<3; guess b<2; guess a=0;");
        due("10 begin", x.many(0), 2);
        due("10 goal", x.many(1), 768);
        due("10 reached", x.many(2), 4);
        due("10 reached ends", x.many(3), 0);
        due("10 greatest level", x.many(4), 2);
        due("10 pairs are counted once", x.many(5), 4);
        due("10 kept", x.many(6), 512);
        due("10 other", x.many(7), -1);
        due("10 pairs, a choice that never leads", Checks.loop("begin a=0; when a=1 do a=2; when a=0 do a=1; when a=9 do b=1;"
            + " goal a=0;").many(5), 512);
        due("10 below", x.many(-1), -1);
        LoopInduction none = Checks.loop("begin 0=1; when a=0 do a=1; goal a=0; rank a;");
        due("10 no begin", none.many(0), 0);
        due("10 none reached", none.many(2), 0);
        due("10 no end reached", none.many(3), 0);
        due("10 no level", none.many(4), -1);
        due("10 no pair", none.many(5), 0);
        due("10 no guess", none.many(6), 4096);
        due("10 ends", Checks.loop(HEAD + "a<4;").many(3), 256);
    }

    private static void level() {
        LoopInduction x = Checks.loop("begin a=0 and b=0 and c=0; when a<15 do a=a+1; when a=0 do a=5; goal a<9;");
        due("11 begin", x.level(0), 0);
        due("11 the least", x.level(5), 1);
        due("11 behind it", x.level(8), 4);
        due("11 the long way", x.level(4), 4);
        due("11 not reached", x.level(16), -1);
        due("11 below", x.level(-1), -1);
        due("11 above", x.level(4096), -1);
    }

    private static void counter() {
        LoopInduction x = Checks.loop("begin a=0 and c=0 and [b=9 or b=3 or b=4]; when a<2 and b#3 do a=a+1;"
            + " when a=0 and b=4 do a=1,c=9; when a=0 and b=4 do a=1,c=2; when a=1 do a=2,c=1; goal a<2;");
        due("12 least first", x.counter(0), 16 * 4);
        due("12 least second", x.counter(1), 1 + 16 * 4);
        due("12 least third", x.counter(2), 2 + 16 * 4);
        due("12 behind the last", x.counter(3), -1);
        due("12 below", x.counter(-1), -1);
        due("12 far", x.counter(Integer.MAX_VALUE), -1);
        LoopInduction greedy = Checks.loop("begin a=0 and b=0 and c=0; when a=0 do a=1; when a=0 do a=2;"
            + " when a=1 do b=1; when a=2 do a=3; goal a#3;");
        due("12 a lesser second one leads nowhere", greedy.counter(1), 2);
        due("12 its last", greedy.counter(2), 3);
        LoopInduction shorter = Checks.loop("begin c=0 and b=0 and a<2; when a<4 do a=a+1; goal a#4;");
        due("12 the shortest though its first is greater", shorter.counter(0), 1);
        due("12 at once", Checks.loop("begin a=3; when a=0 do a=1; goal a#3;").counter(0), 3);
        due("12 at once only", Checks.loop("begin a=3; when a=0 do a=1; goal a#3;").counter(1), -1);
        due("12 turns go on from a bad one", Checks.loop("begin a=3; when a=3 do a=1; goal a#3;").counter(1), -1);
        LoopInduction again = Checks.loop("begin a=0; when a<5 do a=a+1; goal a#5;");
        Checks.text(again, COUNT_UP);
        due("12 nothing is left of the loop before", again.counter(0), -1);
        due("12 no such run", Checks.loop(COUNT_UP).counter(0), -1);
        due("12 bad ones that are not reached", Checks.loop(HEAD + "a<4;").counter(0), -1);
    }

    private static void induction() {
        due("13 by one", Checks.loop(COUNT_UP).induction(0), 1);
        // a=0 turns for ever; 4 to 9 lead to 10, which is bad, so 6 states are good before it
        String tail = "begin a=0; when a=0 do a=0; when 3<a and a<10 do a=a+1; goal a#10;";
        due("13 by seven", Checks.loop(tail).induction(0), 7);
        due("13 strongly by seven without guesses", Checks.loop(tail).induction(1), 7);
        due("13 strongly by one", Checks.loop(tail + " guess a=0;").induction(1), 1);
        due("13 with a guess still by seven", Checks.loop(tail + " guess a=0;").induction(0), 7);
        due("13 strongly by three", Checks.loop(tail + " guess a=0 or 7<a;").induction(1), 3);
        due("13 a guess that goes does not help", Checks.loop(tail + " guess a=1;").induction(1), 7);
        String chain = "begin a=0 and b=0; when b=1 and a<15 do a=a+1; goal a#15 or b#1;";
        due("13 by sixteen", Checks.loop(chain).induction(0), 16);
        String longer = "begin a=0 and b=0; when b=1 and a<15 do a=a+1; when b=2 do b=1,a=0; goal a#15 or b#1;";
        due("13 not by seventeen", Checks.loop(longer).induction(0), 0);
        due("13 strongly all the same", Checks.loop(longer + " guess b=0;").induction(1), 1);
        String circle = "begin a=0; when a=1 do a=1; when a=1 do a=2; goal a#2;";
        due("13 states may come again", Checks.loop(circle).induction(0), 0);
        due("13 refuted", Checks.loop("begin a=0; when a<5 do a=a+1; goal a#5;").induction(0), 0);
        due("13 refuted at begin", Checks.loop("begin a=0; when a=1 do a=2; goal a#0;").induction(0), 0);
        due("13 holds where none begins", Checks.loop("begin 0=1; when a=1 do a=0; goal a#0;").induction(0), 2);
        due("13 other", Checks.loop(COUNT_UP).induction(2), -1);
        due("13 below", Checks.loop(COUNT_UP).induction(-1), -1);
    }

    private static void guesses() {
        // each guess falls one round behind the one that held it up
        LoopInduction x = Checks.loop("begin a=0 and b=0 and c=0; when 0=0 do a=a+1; when 3<a do b=1; when b=1 do c=1;"
            + " goal c=0; guess c=0; guess b=0; guess a<4; guess a<9; guess c<2; guess a#0;");
        due("15 third", x.gone(0), 3);
        due("15 second", x.gone(1), 2);
        due("15 first", x.gone(2), 1);
        due("15 second, too", x.gone(3), 2);
        due("15 kept", x.gone(4), 100);
        due("15 at begin", x.gone(5), 0);
        due("15 no such", x.gone(6), -1);
        due("15 below", x.gone(-1), -1);
        due("14 kept", x.kept(), 16);
        twelveRounds();
        due("14 none", Checks.loop(HEAD + "a=0;").kept(), 0);
        due("15 none", Checks.loop(HEAD + "a=0;").gone(0), -1);
        LoopInduction all = Checks.loop(HEAD + "a=0; " + "guess a<4; ".repeat(12));
        due("14 all", all.kept(), 4095);
        LoopInduction held = Checks.loop("begin a=0 and b=0; when a=b do a=a+1,b=b+1; goal a=b; guess a=b; guess a<15 or b=15;");
        due("14 held by another", held.kept(), 3);
        LoopInduction empty = Checks.loop("begin a=0; when a=0 do a=0; when a=1 do a=2; goal a=0; guess 0=1; guess a<2;");
        due("15 a guess that none has", empty.gone(0), 0);
        due("15 a turn from a state that is not reached", empty.gone(1), 1);
        LoopInduction none = Checks.loop("begin 0=1; when a=1 do a=2; goal a=0; guess 0=1; guess a<2;");
        due("14 kept where none begins", none.kept(), 3);
        due("10 none has them", none.many(6), 0);
    }

    /** Guess g says that a is not g + 1; from a = 13 on it goes down, so that guess 11 goes first, guess 0 last. */
    private static void twelveRounds() {
        StringBuilder text = new StringBuilder("begin a=0; when 1<a and a<14 do a=a-1; goal a=0;");
        for (int g = 0; g < 12; g++) {
            text.append("guess a#").append(g + 1).append(';');
        }
        LoopInduction x = Checks.loop(text.toString());
        for (int g = 0; g < 12; g++) {
            due("15 round of " + g, x.gone(g), 12 - g);
        }
        due("14 none is left", x.kept(), 0);
        due("16 none is left", x.follows(), 0);
    }

    private static void follows() {
        due("16 follows", Checks.loop(COUNT_UP).follows(), 1);
        due("16 not", Checks.loop(HEAD + "a<4; guess a<5;").follows(), 0);
        due("16 without guesses", Checks.loop(HEAD + "a<4;").follows(), 0);
        due("16 a goal of all", Checks.loop(HEAD + "a=a;").follows(), 1);
        due("16 none has them", Checks.loop("begin 0=1; when a=1 do a=2; goal 0=1; guess 0=1;").follows(), 1);
    }

    private static void falls() {
        due("17 falls", Checks.loop(COUNT_UP).falls(), 1);
        due("17 rises", Checks.loop(HEAD + "a=0; rank a;").falls(), 0);
        due("17 stays", Checks.loop(HEAD + "a=0; rank b;").falls(), 0);
        due("17 only reached ones count", Checks.loop("begin a=0; when a<3 do a=a+1; when a=9 do a=9; goal a=0; rank 3-a;").falls(), 1);
        due("17 one choice does not", Checks.loop("begin a=0; when a<3 do a=a+1; when a=2 do b=b; goal a=0; rank 3-a;").falls(), 0);
        due("17 around", Checks.loop("begin a=0; when a<3 do a=a+1; goal a=0; rank 1-a;").falls(), 0);
        due("17 none reached", Checks.loop("begin 0=1; when a=0 do a=0; goal a=0; rank a;").falls(), 1);
        due("17 without a rank", Checks.loop(HEAD + "a=0;").falls(), -1);
    }

    private static void longest() {
        due("18 ten", Checks.loop(COUNT_UP).longest(), 10);
        due("18 no turn", Checks.loop("begin a=0; when a=1 do a=2; goal a=0;").longest(), 0);
        due("18 the long way", Checks.loop("begin a=0; when a<9 do a=a+1; when a=0 do a=9; goal a=0;").longest(), 9);
        due("18 endless", Checks.loop("begin a=0; when a=0 do a=0; goal a=0;").longest(), 5000);
        due("18 endless far on", Checks.loop("begin a=0; when a<9 do a=a+1; when a=9 do a=8; goal a=0;").longest(), 5000);
        due("18 endless where none comes", Checks.loop("begin a=0; when a=0 do a=1; when a=2 do a=2; goal a=0;").longest(), 1);
        due("18 from a begin to another", Checks.loop("begin a<3; when a<5 do a=a+1; goal a=0;").longest(), 5);
        due("18 two choices alike", Checks.loop("begin a=0; when a=0 do a=1; when a=0 do a=1; goal a=0;").longest(), 1);
        due("18 no run", Checks.loop("begin 0=1; when a=0 do a=0; goal a=0;").longest(), -1);
    }

    private static void ask() {
        // 0 to 1 or 2; 1 to 3, an end; 2 to itself or to 3; 4 to 5 and on to 4
        LoopInduction x = Checks.loop("begin a=0 and b=0 and c=0; when a=0 do a=1; when a<3 and a#1 do a=2; when a=1 or a=2 do a=3;"
            + " when a=4 do a=5; when a=5 do a=4; goal a=0;");
        due("19 has", Checks.ask(x, "a<4", 0), 1024);
        due("19 reached", Checks.ask(x, "a<6", 1), 4);
        due("19 some lead", Checks.ask(x, "a=3", 2), 1024);
        due("19 all lead", Checks.ask(x, "a=3", 3), 512);
        due("19 all lead behind a choice", Checks.ask(x, "a=1 or a=2", 3), 768);
        due("19 round and round", Checks.ask(x, "a=4", 3), 512);
        due("19 an end without it", Checks.ask(x, "a=1", 3), 256);
        due("19 none leads away", Checks.ask(x, "a#3", 4), 4096 - 1024);
        due("19 none leads away on a circle", Checks.ask(x, "a=4 or a=5", 4), 512);
        due("19 an end has it", Checks.ask(x, "a=3", 4), 256);
        due("19 not all stay", Checks.ask(x, "a=0 or a=1", 4), 0);
        due("19 all", Checks.ask(x, "[0=0]", 3), 4096);
        due("19 none", Checks.ask(x, "0=1", 3), 0);
        due("19 the loop stays", x.told(0), 5);
        due("19 its levels stay", x.level(3), 2);
        due("19 its begin stays", x.many(0), 1);
        due("19 empty", x.ask(0), -2);
        due("19 more than a cond", Checks.ask(x, "a=0;", 0), -2);
        due("19 a word", Checks.ask(x, "begin", 0), -2);
        due("19 the tape is empty behind a fault", Checks.ask(x, "a=0", 0), 256);
        due("19 the tape is empty", x.feed(0x613d3020, 0x20202020, 0x20202020, 0x20202020, 0x20202020), 20);
        due("19 another kind", x.ask(5), -1);
        due("19 below", x.ask(-1), -1);
        due("19 the tape stays", x.ask(0), 256);
        due("19 nine nested", Checks.ask(x, "not ".repeat(9) + "a=0", 0), -2);
        due("19 eight nested", Checks.ask(x, "not ".repeat(8) + "a=0", 0), 256);
        due("5 no fault of a text", x.place(), -1);
    }
}
