import java.util.List;

/** Each sentence of the Terms on texts, and of promises 1 to 5, that names an edge: tests of its own. */
public final class TextEdgeTest {
    private static final Checks CHECKS = new Checks();
    private static final String HEAD = "begin a=0; when a<3 do a=a+1; goal ";
    private static final String LEAST = "begin 0=0; when 0=0 do a=0; goal 0=0;";
    private static final int BLANKS = 0x20202020;

    public static void main(String[] args) {
        tokens();
        grammar();
        limits();
        values();
        faults();
        tape();
        reading();
        CHECKS.finish("TextEdgeTest");
    }

    private static void due(String what, long got, long want) {
        CHECKS.due(what, got, want);
    }

    /** What the exp is in a STATE, told by a rank. */
    private static int value(String exp, int s) {
        return Checks.loop(HEAD + "a=0; rank " + exp + ";").rank(s);
    }

    private static int holds(String cond, int s) {
        return Checks.loop(HEAD + cond + ";").has(s, 1);
    }

    /** The exp stands in turn wherever an exp can; the mark ^ is in it. */
    private static void faultInEachPart(String exp) {
        CHECKS.faultAt("begin " + exp + "=0; when a=0 do a=1; goal a=0;");
        CHECKS.faultAt("begin a=" + exp + "; when a=0 do a=1; goal a=0;");
        CHECKS.faultAt("begin a=0; when " + exp + "#0 do a=1; goal a=0;");
        CHECKS.faultAt("begin a=0; when a=0 do b=" + exp + "; goal a=0;");
        CHECKS.faultAt("begin a=0; when a=0 do b=1,a=" + exp + "; goal a=0;");
        CHECKS.faultAt(HEAD + exp + "<1;");
        CHECKS.faultAt(HEAD + "a=0; guess a<" + exp + ";");
        CHECKS.faultAt(HEAD + "a=0; rank " + exp + ";");
        CHECKS.faultAt(HEAD + "a=0; rank 1+" + exp + "*2;");
        due("ask " + exp, Checks.ask(Checks.loop(LEAST), "a=" + exp.replace("^", ""), 0), -2);
    }

    // ---- tokens

    private static void tokens() {
        CHECKS.sentence("VARIABLES are a, b, c", TextEdgeTest::variables);
        CHECKS.sentence("NUMBERS are 0 .. 15", TextEdgeTest::numbers);
        CHECKS.sentence("digits not beginning with 0 but for 0", TextEdgeTest::zeroAhead);
        CHECKS.sentence("WORDS: begin when do goal guess rank or and not", TextEdgeTest::words);
        CHECKS.sentence("SIGNS: ; , = < # + - * ( ) [ ]; another byte is a fault", TextEdgeTest::everyByte);
        CHECKS.sentence("a row of letters is one token", TextEdgeTest::rowOfLetters);
        CHECKS.sentence("a row of digits, too", TextEdgeTest::rowOfDigits);
        CHECKS.sentence("blanks (32, 10) between tokens where needed", TextEdgeTest::blanks);
    }

    private static void variables() {
        int s = 3 + 16 * 7 + 256 * 12;
        due("a", value("a", s), 3);
        due("b", value("b", s), 7);
        due("c", value("c", s), 12);
        for (String none : List.of("d", "z", "A", "C", "aa", "abc", "x", "begin", "or")) {
            faultInEachPart("^" + none);
            CHECKS.faultAt("begin a=0; when a=0 do ^" + none + "=1; goal a=0;");
        }
    }

    private static void numbers() {
        for (int n = 0; n < 16; n++) {
            due("value", value("" + n, 0), n);
            due("alone", Checks.ask(Checks.loop(LEAST), "a=" + n, 0), 256);
        }
        for (int n = 16; n <= 300; n++) {
            CHECKS.faultAt(HEAD + "a=^" + n + ";");
        }
        for (String far : List.of("16", "20", "99", "100", "160", "255", "256", "65536", "4294967295", "4294967296", "4294967301",
            "18446744073709551616", "18446744073709551621", "1" + "0".repeat(200), "9".repeat(300))) {
            faultInEachPart("^" + far);
        }
    }

    private static void zeroAhead() {
        due("0", value("0", 0), 0);
        due("10", value("10", 0), 10);
        for (String none : List.of("00", "01", "09", "010", "015", "000", "0000000000000000000001", "016")) {
            faultInEachPart("^" + none);
        }
        CHECKS.faultAt(HEAD + "a=0 ^0;");
    }

    private static void words() {
        String all = "begin not a=0 and b=0 or c=0; when a=0 do a=1; goal a=0; guess a=0; rank a;";
        CHECKS.good(all);
        for (String word : List.of("begin", "not", "and", "or", "when", "do", "goal", "guess", "rank")) {
            int at = all.indexOf(word);
            String before = all.substring(0, at);
            String behind = all.substring(at + word.length());
            CHECKS.faultAt(before + "^" + word + "x" + behind);
            CHECKS.faultAt(before + "^x" + word + behind);
            CHECKS.faultAt(before + "^" + word.toUpperCase() + behind);
            CHECKS.faultAt(before + "^" + word + word + behind);
            CHECKS.faultAt(before + "^" + word.substring(1) + behind);
            for (int n = 0; n < word.length(); n++) {
                CHECKS.faultAt(before + "^" + word.substring(0, n) + "x" + word.substring(n + 1) + behind);
            }
        }
    }

    /** Behind 'begin a=5' each of the 256 bytes stands once. */
    private static void everyByte() {
        String goesOn = ";+-*\n ";
        for (int b = 0; b < 256; b++) {
            // a digit makes another number of the 5, which is above 15
            int place = b >= '0' && b <= '9' ? 8 : goesOn.indexOf(b) >= 0 ? 10 : 9;
            CHECKS.fault("begin a=5" + (char) b, place);
        }
        for (int b = 0; b < 256; b++) {
            LoopInduction x = Checks.loop(LEAST);
            boolean blank = b == 32 || b == 10;
            due("ask with byte " + b, Checks.ask(x, "a=5" + (char) b, 0), blank ? 256 : -2);
        }
        CHECKS.good(HEAD + "[a<0]and(b*c)#a+b-c; guess[a=0];");
    }

    private static void rowOfLetters() {
        CHECKS.faultAt("^begina=0;");
        CHECKS.faultAt("begin ^nota=0;");
        CHECKS.faultAt("begin a=0 ^andb=0;");
        CHECKS.faultAt("begin a=b ^orc=0;");
        CHECKS.faultAt("begin a=^bor c=0;");
        CHECKS.faultAt("begin a=0; when a=0 ^doa=1;");
        CHECKS.faultAt("begin a=0; when a=^bdo a=1;");
        CHECKS.faultAt("begin a=0; ^whena=0 do a=1;");
        CHECKS.faultAt(HEAD + "a=0; ^ranka;");
        for (char letter : new char[] {'a', 'm', 'z', 'A', 'M', 'Z'}) {
            CHECKS.faultAt("^begin" + letter + " a=0;");
            CHECKS.faultAt("begin ^a" + letter + "=0;");
        }
        for (char none : new char[] {'@', '`', '{', '_', '/', ':', '\u00e4'}) {
            CHECKS.faultAt("begin^" + none + " a=0;");
        }
        CHECKS.faultAt("^be gin a=0;");
        CHECKS.faultAt("^be\ngin a=0;");
        CHECKS.good("begin 0=0or 1=1and 2=2;when 0=0do a=0;goal 0=0;rank-a;");
        CHECKS.good("begin(0)=0;when[0=0]do a=0;goal not[0=0];guess-1=0;rank(a);");
    }

    private static void rowOfDigits() {
        CHECKS.faultAt(HEAD + "a=1 ^5;");
        CHECKS.faultAt(HEAD + "a=1\n^5;");
        CHECKS.good(HEAD + "a=15;");
        due("15 is no 1", holds("a=15", 15), 1);
        CHECKS.faultAt(HEAD + "a=^151;");
        CHECKS.faultAt(HEAD + "a^1=0;");
        CHECKS.faultAt(HEAD + "1^a=0;");
        CHECKS.faultAt("begin1^x=0;");
        due("a word may follow at once", holds("1=1and 2=2", 0), 1);
    }

    private static void blanks() {
        CHECKS.good("\n \n" + HEAD.replace(" ", "\n") + " a \n = 0\n\n  ;\n \n");
        CHECKS.good(LEAST.replace("=", " = ").replace(";", " ; "));
        CHECKS.good("begin 0=0;when 0=0do a=0;goal 0=0;");
        for (char none : new char[] {9, 11, 12, 13, 0, 31, 33, 127, 160, 133}) {
            CHECKS.fault("begin" + none + "0=0;", 5);
            CHECKS.fault(LEAST + none, LEAST.length());
            CHECKS.fault(none + LEAST, 0);
        }
        CHECKS.faultAt("begin 0 =\n0  ^=");
    }

    // ---- grammar

    private static void grammar() {
        CHECKS.sentence("LOOP: begin cond ; { when .. } goal cond ; { guess cond ; } [ rank exp ; ]", TextEdgeTest::parts);
        CHECKS.sentence("1 .. 6 CHOICES; the seventh when", TextEdgeTest::choices);
        CHECKS.sentence("0 .. 12 guesses; the 13th guess", TextEdgeTest::guesses);
        CHECKS.sentence("[ rank exp ; ]: one at most, the last", TextEdgeTest::rankLast);
        CHECKS.sentence("VARIABLE = exp { , VARIABLE = exp }", TextEdgeTest::assignments);
        CHECKS.sentence("a VARIABLE that stands before = in this CHOICE already", TextEdgeTest::twice);
        CHECKS.sentence("prim: not prim, [ cond ], exp (< = #) exp", TextEdgeTest::prims);
        CHECKS.sentence("unary: NUMBER, VARIABLE, - unary, ( exp )", TextEdgeTest::unaries);
        CHECKS.sentence("cond: conj { or conj }, conj: prim { and prim }", TextEdgeTest::conjs);
        CHECKS.sentence("exp: term { (+ -) term }, term: unary { * unary }", TextEdgeTest::terms);
    }

    /** Each beginning of a LOOP wants more, at its length; each token left out is missed at the next one. */
    private static void parts() {
        List<String> tokens = List.of("begin", "not", "[", "a", "=", "0", "or", "b", "<", "1", "]", ";", "when", "a", "#", "0", "do",
            "a", "=", "-", "(", "b", "*", "2", ")", ",", "c", "=", "a", "+", "1", ";", "goal", "c", "=", "0", "and", "a", "=", "0", ";",
            "guess", "b", "=", "0", ";", "rank", "a", ";");
        int goalEnd = 41;
        int guessEnd = 46;
        for (int n = 0; n <= tokens.size(); n++) {
            String text = String.join(" ", tokens.subList(0, n));
            if (n == goalEnd || n == guessEnd || n == tokens.size()) {
                CHECKS.good(text);
            } else {
                CHECKS.fault(text, text.length());
                CHECKS.fault(text + " \n", text.length() + 2);
                CHECKS.fault(text + " ?", text.length() + 1);
            }
        }
        CHECKS.faultAt("^a=0; when a=0 do a=1; goal a=0;");
        CHECKS.faultAt("^when a=0 do a=1; goal a=0;");
        CHECKS.faultAt("^goal a=0;");
        CHECKS.faultAt("begin ^; when a=0 do a=1; goal a=0;");
        CHECKS.faultAt("begin a=0 ^when a=0 do a=1; goal a=0;");
        CHECKS.faultAt("begin a=0; when ^do a=1; goal a=0;");
        CHECKS.faultAt("begin a=0; when a=0 ^a=1; goal a=0;");
        CHECKS.faultAt("begin a=0; when a=0 do ^; goal a=0;");
        CHECKS.faultAt("begin a=0; when a=0 do a=1; ^guess a=0; goal a=0;");
        CHECKS.faultAt("begin a=0; when a=0 do a=1; ^rank a;");
        CHECKS.faultAt("begin a=0; when a=0 do a=1; ^a=0;");
        CHECKS.faultAt(HEAD + "a=0; ^begin a=0;");
        CHECKS.faultAt(HEAD + "a=0; ^goal a=0;");
        CHECKS.faultAt(HEAD + "a=0; guess a=0; ^when a=0 do a=1;");
        CHECKS.faultAt(HEAD + "a=0; ^a=0;");
        CHECKS.faultAt(HEAD + "a=0;^;");
    }

    private static void choices() {
        String choice = "when a=0 do a=1; ";
        CHECKS.faultAt("begin a=0; ^goal a=0;");
        for (int n = 1; n <= 6; n++) {
            String text = "begin a=0; " + choice.repeat(n) + "goal a=0;";
            CHECKS.good(text);
            due("told", Checks.loop(text).told(0), n);
        }
        CHECKS.faultAt("begin a=0; " + choice.repeat(6) + "^" + choice + "goal a=0;");
        CHECKS.faultAt("begin a=0; " + choice.repeat(6) + "^when");
        CHECKS.faultAt("begin a=0; " + choice.repeat(6) + "^" + choice.repeat(3));
    }

    private static void guesses() {
        for (int n = 0; n <= 12; n++) {
            String text = HEAD + "a=0; " + "guess a=0; ".repeat(n);
            CHECKS.good(text);
            due("told", Checks.loop(text).told(1), n);
            CHECKS.good(text + "rank a;");
        }
        CHECKS.faultAt(HEAD + "a=0; " + "guess a=0; ".repeat(12) + "^guess a=0;");
        CHECKS.faultAt(HEAD + "a=0; " + "guess a=0; ".repeat(12) + "^guess");
    }

    private static void rankLast() {
        CHECKS.good(HEAD + "a=0; rank a;");
        CHECKS.faultAt(HEAD + "a=0; rank a; ^rank a;");
        CHECKS.faultAt(HEAD + "a=0; rank a; ^guess a=0;");
        CHECKS.faultAt(HEAD + "a=0; rank ^;");
        CHECKS.faultAt(HEAD + "a=0; rank a^=0;");
        CHECKS.faultAt(HEAD + "a=0; rank ^not a=0;");
        CHECKS.faultAt(HEAD + "a=0; rank ^[a];");
        CHECKS.faultAt(HEAD + "a=0; rank a;^;");
        CHECKS.faultAt(HEAD + "a=0; rank a^");
    }

    private static void assignments() {
        CHECKS.faultAt("begin a=0; when a=0 do ^1=1; goal a=0;");
        CHECKS.faultAt("begin a=0; when a=0 do ^(a)=1; goal a=0;");
        CHECKS.faultAt("begin a=0; when a=0 do a^+1; goal a=0;");
        CHECKS.faultAt("begin a=0; when a=0 do a^#1; goal a=0;");
        CHECKS.faultAt("begin a=0; when a=0 do a^,b=1; goal a=0;");
        CHECKS.faultAt("begin a=0; when a=0 do a=^,b=1; goal a=0;");
        CHECKS.faultAt("begin a=0; when a=0 do a=1,^; goal a=0;");
        CHECKS.faultAt("begin a=0; when a=0 do a=1^b=2; goal a=0;");
        CHECKS.faultAt("begin a=0; when a=0 do a=1,^,b=2; goal a=0;");
        CHECKS.faultAt("begin a=0; when a=0 do a=1^=2; goal a=0;");
        due("in any order", Checks.loop("begin a=0; when 0=0 do c=1,a=2,b=3; goal a=0;").next(0, 0), 2 + 16 * 3 + 256);
    }

    private static void twice() {
        for (String v : List.of("a", "b", "c")) {
            CHECKS.faultAt("begin a=0; when a=0 do " + v + "=1,^" + v + "=2; goal a=0;");
            CHECKS.faultAt("begin a=0; when a=0 do b=1; when a=0 do " + v + "=1 , \n ^" + v + "=1; goal a=0;");
            CHECKS.faultAt("begin a=0; when a=0 do a=1,b=1,c=1,^" + v + "=2; goal a=0;");
            CHECKS.faultAt("begin a=0; when a=0 do c=1,a=1,b=1,^" + v);
            CHECKS.good("begin a=0; when a=0 do " + v + "=" + v + "+" + v + "; goal a=0;");
        }
        CHECKS.good("begin a=0; " + "when a=0 do a=1,b=1,c=1; ".repeat(6) + "goal a=0;");
        // the CHOICES of a text before this one, whole or with a fault, do not count
        LoopInduction x = Checks.loop("begin a=0; when a=0 do a=1,b=1,c=1; goal a=0;");
        due("again", Checks.text(x, "begin a=0; when a=0 do a=1,b=1,c=1; goal a=0;"), 1);
        due("fault", Checks.text(x, "begin a=0; when a=0 do a=1,b=1,c=1; goal"), -2);
        due("behind a fault", Checks.text(x, "begin a=0; when a=0 do a=1,b=1,c=1; goal a=0;"), 1);
    }

    private static void prims() {
        CHECKS.faultAt(HEAD + "a^;");
        CHECKS.faultAt(HEAD + "a=^;");
        CHECKS.faultAt(HEAD + "a<b^<c;");
        CHECKS.faultAt(HEAD + "a=b^#c;");
        CHECKS.faultAt(HEAD + "(a^=0);");
        CHECKS.faultAt(HEAD + "[a^]=0;");
        CHECKS.faultAt(HEAD + "[a=0^;");
        CHECKS.faultAt(HEAD + "[a=0^);");
        CHECKS.faultAt(HEAD + "a=0^];");
        CHECKS.faultAt(HEAD + "[^];");
        CHECKS.faultAt(HEAD + "not ^;");
        CHECKS.faultAt(HEAD + "a=0 ^not b=0;");
        CHECKS.faultAt(HEAD + "a=^not b;");
        CHECKS.faultAt(HEAD + "a=^[b];");
        CHECKS.faultAt(HEAD + "[a=0] ^[b=0];");
        due("not goes with one prim", holds("not a=1 or a=1", 1), 1);
        due("not goes with one prim of a conj", holds("not a=0 and a=0", 1), 0);
        due("not of a bracket", holds("not [a=1 or a=0]", 1), 0);
        due("less", holds("a<b", 16), 1);
        due("not less than its like", holds("a<b", 17), 0);
        due("0 is less than 15", holds("0<15", 0), 1);
        due("15 is not", holds("15<0", 0), 0);
        due("equal", holds("a=b", 17), 1);
        due("not equal", holds("a=b", 16), 0);
        due("# is unlike", holds("a#b", 16), 1);
        due("# of like ones", holds("a#b", 17), 0);
    }

    private static void unaries() {
        CHECKS.faultAt(HEAD + "-^;");
        CHECKS.faultAt(HEAD + "(^)=0;");
        CHECKS.faultAt(HEAD + "(a^;");
        CHECKS.faultAt(HEAD + "(a+1^]=0;");
        CHECKS.faultAt(HEAD + "a^)=0;");
        CHECKS.faultAt(HEAD + "a ^b=0;");
        CHECKS.faultAt(HEAD + "a^(b)=0;");
        CHECKS.faultAt(HEAD + "^+a=0;");
        CHECKS.faultAt(HEAD + "^*a=0;");
        CHECKS.faultAt(HEAD + "(^[a=0])=0;");
        CHECKS.faultAt(HEAD + "-^not a=0;");
        due("minus goes with one unary", value("-a*2+1", 3), 11);
        due("minus of a bracket", value("-(a+1)", 3), 12);
        due("minus of minus", value("--a", 3), 3);
        due("minus behind minus", value("5--a", 3), 8);
        due("minus behind plus", value("5+-a", 3), 2);
        due("minus behind times", value("5*-a", 3), 1);
    }

    private static void conjs() {
        CHECKS.faultAt(HEAD + "^or a=0;");
        CHECKS.faultAt(HEAD + "^and a=0;");
        CHECKS.faultAt(HEAD + "a=0 or ^;");
        CHECKS.faultAt(HEAD + "a=0 and ^or b=0;");
        CHECKS.faultAt(HEAD + "a=0 or ^and b=0;");
        CHECKS.faultAt(HEAD + "a=0 ^a=0;");
        for (int s = 0; s < 8; s++) {
            // a, b, c are 0 or 1 here
            int state = (s & 1) + 16 * (s >> 1 & 1) + 256 * (s >> 2);
            boolean a = (s & 1) == 1;
            boolean b = (s >> 1 & 1) == 1;
            boolean c = s >> 2 == 1;
            due("or, and", holds("a=1 or b=1 and c=1", state), a || b && c ? 1 : 0);
            due("and, or", holds("a=1 and b=1 or c=1", state), a && b || c ? 1 : 0);
            due("three or", holds("a=1 or b=1 or c=1", state), s > 0 ? 1 : 0);
            due("three and", holds("a=1 and b=1 and c=1", state), s == 7 ? 1 : 0);
            due("bracket", holds("a=1 and [b=1 or c=1]", state), a && (b || c) ? 1 : 0);
        }
    }

    private static void terms() {
        CHECKS.faultAt(HEAD + "a+^=0;");
        CHECKS.faultAt(HEAD + "a*^;");
        CHECKS.faultAt(HEAD + "a*^+b=0;");
        CHECKS.faultAt(HEAD + "a-^*b=0;");
        CHECKS.faultAt(HEAD + "a+^+b=0;");
        due("from the left", value("10-3-2", 0), 5);
        due("minus, plus", value("10-3+2", 0), 9);
        due("times first", value("2+3*4", 0), 14);
        due("times first on both sides", value("2*3+1*4", 0), 10);
        due("bracket", value("(2+3)*2", 0), 10);
        due("bracket on the right", value("10-(3-2)", 0), 9);
        due("three times", value("2*3*2", 0), 12);
    }

    // ---- limits

    private static void limits() {
        CHECKS.sentence("not, [, -, ( within one another 8 at most; the ninth that opens", TextEdgeTest::nested);
        CHECKS.sentence("within one another: what is closed counts no more", TextEdgeTest::nestedAgain);
        CHECKS.sentence("100 unaries in a text", TextEdgeTest::hundred);
        CHECKS.sentence("the 101st unary's first token", TextEdgeTest::hundredAndFirst);
    }

    private static void nested() {
        CHECKS.good(HEAD + "not ".repeat(8) + "a=0;");
        CHECKS.faultAt(HEAD + "not ".repeat(8) + "^not a=0;");
        CHECKS.good(HEAD + "[".repeat(8) + "a=0" + "]".repeat(8) + ";");
        CHECKS.faultAt(HEAD + "[".repeat(8) + "^[a=0" + "]".repeat(9) + ";");
        CHECKS.good(HEAD + "-".repeat(8) + "a=0;");
        CHECKS.faultAt(HEAD + "-".repeat(8) + "^-a=0;");
        CHECKS.good(HEAD + "(".repeat(8) + "a" + ")".repeat(8) + "=0;");
        CHECKS.faultAt(HEAD + "(".repeat(8) + "^(a" + ")".repeat(9) + "=0;");
        String[] opens = {"not ", "[", "-", "("};
        String[] closes = {"", "]", "", ")"};
        // any two kinds, in any share of the eight; conds open before exps
        for (int outer = 0; outer < 4; outer++) {
            for (int inner = outer < 2 ? 0 : 2; inner < 4; inner++) {
                for (int n = 0; n <= 8; n++) {
                    String open = opens[outer].repeat(n) + opens[inner].repeat(8 - n);
                    boolean exp = inner >= 2;
                    String inside = exp ? "a" : "a=0";
                    String expClose = exp ? closes[inner].repeat(8 - n) + (outer >= 2 ? closes[outer].repeat(n) : "") + "=0" : closes[inner].repeat(8 - n);
                    String close = expClose + (outer < 2 ? closes[outer].repeat(n) : "");
                    CHECKS.good(HEAD + open + inside + close + ";");
                    for (int ninth = exp ? 2 : 0; ninth < 4; ninth++) {
                        CHECKS.faultAt(HEAD + open + "^" + opens[ninth] + inside + close + ";");
                    }
                }
            }
        }
        for (String part : List.of("begin %=0; when a=0 do a=1; goal a=0;", "begin a=0; when %=0 do a=1; goal a=0;",
            "begin a=0; when a=0 do a=%; goal a=0;", HEAD + "a=0; guess a=%;", HEAD + "a=0; rank %;")) {
            CHECKS.good(part.replace("%", "-".repeat(8) + "a"));
            CHECKS.faultAt(part.replace("%", "-".repeat(8) + "^-a"));
        }
        LoopInduction x = Checks.loop(LEAST);
        due("ask, eight", Checks.ask(x, "[not ".repeat(4) + "a=0" + "]".repeat(4), 0), 256);
        due("ask, nine", Checks.ask(x, "not " + "[not ".repeat(4) + "a=0" + "]".repeat(4), 0), -2);
    }

    private static void nestedAgain() {
        String eight = "[".repeat(8) + "a=0" + "]".repeat(8);
        CHECKS.good(HEAD + eight + " and " + eight + " or " + eight + ";");
        CHECKS.good(HEAD + "not ".repeat(8) + "a=0 and " + "not ".repeat(8) + "a=0 or " + "not ".repeat(8) + "a=0;");
        CHECKS.good(HEAD + "-".repeat(8) + "a*" + "-".repeat(8) + "a-" + "-".repeat(8) + "a=" + "-".repeat(8) + "a;");
        CHECKS.good(HEAD + "((((((((a))))))))*((((((((a))))))))=((((((((a))))))));");
        CHECKS.faultAt(HEAD + "not [a=0 and [[[[[[a=0]]]]]] and " + "[".repeat(6) + "^[a=0");
        CHECKS.good(HEAD + "not not not not not not not (a)=(b) and not not not not not not not -a=-b;");
        CHECKS.faultAt(HEAD + "not not not not not not not (a)=(^(b)) ;");
        // a minus between two terms opens nothing
        CHECKS.good(HEAD + "((((((((a-b-c-1-2-3-4-5-6-7))))))))=0;");
        CHECKS.good("begin " + eight + "; when " + eight + " do a=" + "-".repeat(8) + "a; goal " + eight + "; guess " + eight + "; rank "
            + "-".repeat(8) + "a;");
    }

    /** HEAD has 6 unaries. */
    private static void hundred() {
        String full = HEAD + "a=" + "1+".repeat(92) + "1;";
        CHECKS.good(full);
        due("told", Checks.loop(full).told(2), 100);
        String spread = "begin " + "a+".repeat(20) + "a=0; when " + "a*".repeat(20) + "a=0 do a=" + "b-".repeat(19) + "b; goal a=0; guess "
            + "1+".repeat(20) + "1=0; rank ";
        // 22 + 22 + 20 + 2 + 22 = 88
        CHECKS.good(spread + "1*".repeat(11) + "1;");
        due("told of all parts", Checks.loop(spread + "1*".repeat(11) + "1;").told(2), 100);
        CHECKS.faultAt(spread + "1*".repeat(12) + "^1;");
        due("- and ( are unaries, too", Checks.loop(LEAST + "rank -(-(a));").told(2), 7 + 5);
        CHECKS.good(LEAST + "rank 1" + "+-(1)".repeat(30) + "+1*1;");
        due("told with brackets", Checks.loop(LEAST + "rank 1" + "+-(1)".repeat(30) + "+1*1;").told(2), 100);
        due("a VARIABLE before = is none", Checks.loop("begin 0=0; when 0=0 do a=0,b=0,c=0; goal 0=0;").told(2), 9);
        LoopInduction x = Checks.loop(full);
        due("another text has its own hundred", Checks.text(x, full), 1);
        due("ask has its own hundred", Checks.ask(x, "0=" + "0*".repeat(98) + "0", 0), 4096);
        due("ask, 101", Checks.ask(x, "0=" + "0*".repeat(99) + "0", 0), -2);
        due("behind a fault, too", Checks.ask(x, "0=" + "0*".repeat(98) + "0", 0), 4096);
    }

    private static void hundredAndFirst() {
        String ahead = HEAD + "a=" + "1+".repeat(93);
        for (String first : List.of("1", "15", "a", "-1", "(1)", "-(a)", "((((((((1))))))))")) {
            CHECKS.faultAt(ahead + "^" + first + ";");
            CHECKS.faultAt(ahead + " \n ^" + first);
        }
        CHECKS.faultAt(HEAD + "a=" + "1+".repeat(92) + "-^1;");
        CHECKS.faultAt(HEAD + "a=" + "1+".repeat(92) + "(^1);");
        CHECKS.faultAt(HEAD + "a=" + "1+".repeat(91) + "-(^1);");
        CHECKS.faultAt(HEAD + "a=" + "1+".repeat(90) + "-(1+^1);");
        CHECKS.faultAt(HEAD + "a=" + "1+".repeat(92) + "1; guess ^a=0;");
        CHECKS.faultAt(HEAD + "a=" + "1+".repeat(92) + "1; guess not ^a=0;");
        CHECKS.faultAt(HEAD + "a=" + "1+".repeat(92) + "1; rank ^a;");
        CHECKS.faultAt("begin " + "1+".repeat(98) + "1=0; when ^a=0 do a=1; goal a=0;");
        CHECKS.faultAt("begin " + "1+".repeat(95) + "1=0; when a=0 do a=1,b=^2; goal a=0;");
    }

    // ---- values

    private static void values() {
        CHECKS.sentence("values are modulo 16, each step of an exp", TextEdgeTest::modulo);
        CHECKS.sentence("STATES are a and 16 b and 256 c: what wraps stays within its VARIABLE", TextEdgeTest::wrap);
    }

    private static void modulo() {
        due("sum 16", value("15+1", 0), 0);
        due("sum 30", value("15+15", 0), 14);
        due("below 0", value("0-1", 0), 15);
        due("-15", value("0-15", 0), 1);
        due("minus 0", value("-0", 0), 0);
        due("minus 1", value("-1", 0), 15);
        due("minus 15", value("-15", 0), 1);
        due("minus 8", value("-8", 0), 8);
        due("product 16", value("4*4", 0), 0);
        due("product 225", value("15*15", 0), 1);
        due("many products", value("15*15*15*15*15*15*15*15*15*15*15*15*15*15*15*15*15", 0), 15);
        due("a compared sum", holds("15+1<1", 0), 1);
        due("a compared difference", holds("0-1<1", 0), 0);
        due("both sides", holds("8+8=4*4", 0), 1);
        due("minus compared", holds("14<-1", 0), 1);
        due("minus zero compared", holds("-0<1", 0), 1);
        due("unlike", holds("15+1-15#1", 0), 0);
        for (int a = 0; a < 16; a++) {
            for (int b = 0; b < 16; b += 5) {
                int s = a + 16 * b;
                due("sum", value("a+b", s), (a + b) % 16);
                due("difference", value("a-b", s), (a - b + 16) % 16);
                due("product", value("a*b", s), a * b % 16);
                due("minus", value("-a", s), (16 - a) % 16);
            }
        }
    }

    private static void wrap() {
        LoopInduction up = Checks.loop("begin 0=0; when 0=0 do a=a+1; when 0=0 do b=b+1; when 0=0 do c=c+1; when 0=0 do a=a+1,b=b+1,c=c+1; goal 0=0;");
        due("a", up.next(15, 0), 0);
        due("a beside b and c", up.next(15 + 16 * 3 + 256 * 9, 0), 16 * 3 + 256 * 9);
        due("b", up.next(16 * 15, 1), 0);
        due("b beside a and c", up.next(4 + 16 * 15 + 256 * 2, 1), 4 + 256 * 2);
        due("c", up.next(256 * 15, 2), 0);
        due("c of the last STATE", up.next(4095, 2), 255);
        due("all", up.next(4095, 3), 0);
        LoopInduction down = Checks.loop("begin 0=0; when 0=0 do a=a-1; when 0=0 do b=b-1; when 0=0 do c=c-1; when 0=0 do a=-a,b=a*b,c=0-c; goal 0=0;");
        due("a below 0", down.next(0, 0), 15);
        due("b below 0", down.next(7, 1), 7 + 16 * 15);
        due("c below 0", down.next(7, 2), 7 + 256 * 15);
        due("all below 0", down.next(1 + 16 * 2 + 256 * 3, 3), 15 + 16 * 2 + 256 * 13);
        LoopInduction ends = Checks.loop("begin a=0; when 0=0 do a=1; goal a=0;");
        due("the first STATE", ends.has(0, 0), 1);
        due("the last STATE", ends.has(4095, 0), 0);
        due("a=0, b=15, c=15", ends.has(4080, 0), 1);
    }

    // ---- faults

    private static void faults() {
        CHECKS.sentence("THE FAULT lies at the first byte of the first token that cannot stand there", TextEdgeTest::firstFault);
        CHECKS.sentence("or at the text's length", TextEdgeTest::faultAtLength);
    }

    private static void firstFault() {
        CHECKS.faultAt("begin a=^16 and d=99 ? goal");
        CHECKS.faultAt("^? 99 begin");
        CHECKS.faultAt("begin [[a=^ab]");
        CHECKS.faultAt(HEAD + "a=0; guess ^guess guess");
        CHECKS.faultAt("   \n ^when");
        CHECKS.faultAt("begin a=0 ;\n\n  ^beginning");
        CHECKS.faultAt("begin a=\n^300;");
        // what is read before is whole, so a byte that is none far behind it is not the first fault
        CHECKS.faultAt("begin a=0; ^goal a=0; \u0001");
        CHECKS.faultAt("begin a=0; when a=0 do a=1,^a=\u0001; goal a=0;");
        CHECKS.faultAt(LEAST + "^\u0001");
        CHECKS.faultAt(LEAST + " ^0");
        CHECKS.faultAt(LEAST + "rank a; ^\u0000");
    }

    private static void faultAtLength() {
        CHECKS.fault("", 0);
        CHECKS.fault(" ", 1);
        CHECKS.fault("\n\n \n", 4);
        CHECKS.fault("begin", 5);
        CHECKS.fault("begin \n", 7);
        CHECKS.fault(HEAD, HEAD.length());
        CHECKS.fault(HEAD + "a=0", HEAD.length() + 3);
        CHECKS.fault(HEAD + "not [a=-(1", HEAD.length() + 10);
        for (int length = HEAD.length(); length <= 1200; length += 113) {
            CHECKS.fault(HEAD + " ".repeat(length - HEAD.length()), length);
        }
        CHECKS.fault(HEAD + " ".repeat(1200 - HEAD.length()), 1200);
        CHECKS.fault(HEAD + " ".repeat(1199 - HEAD.length()) + "a", 1200);
        CHECKS.fault(" ".repeat(1199) + "?", 1199);
    }

    // ---- promises 1 to 3

    private static void tape() {
        CHECKS.sentence("1: no LOOP, an empty tape", TextEdgeTest::newObject);
        CHECKS.sentence("2: twenty bytes come, the first number's highest one first", TextEdgeTest::order);
        CHECKS.sentence("2: how many it has", TextEdgeTest::sizes);
        CHECKS.sentence("2: NONE (none comes): it would have more than 1200", TextEdgeTest::fullTape);
        CHECKS.sentence("3: of the last 20 bytes only the first n stay", TextEdgeTest::cut);
        CHECKS.sentence("3: NONE: n is not 0 .. 20", TextEdgeTest::cutNone);
        CHECKS.sentence("3: NONE: there are not 20", TextEdgeTest::cutTooFew);
    }

    private static int feedBlanks(LoopInduction x) {
        return x.feed(BLANKS, BLANKS, BLANKS, BLANKS, BLANKS);
    }

    private static void newObject() {
        LoopInduction x = new LoopInduction();
        due("no loop", x.told(0), -1);
        due("no fault", x.place(), -1);
        due("nothing to cut", x.end(0), -1);
        due("nothing to read", x.text(), -2);
        due("at its length", x.place(), 0);
        due("first bytes", feedBlanks(new LoopInduction()), 20);
        LoopInduction full = Checks.loop(HEAD + "a<3;");
        due("a new one has nothing of another", new LoopInduction().many(2), -1);
        due("nor does it take", full.many(2), 1024);
    }

    /** The one '?' among blanks is found where it was fed. */
    private static void order() {
        for (int n = 0; n < 20; n++) {
            int[] numbers = {BLANKS, BLANKS, BLANKS, BLANKS, BLANKS};
            int shift = 24 - 8 * (n % 4);
            numbers[n / 4] = BLANKS & ~(255 << shift) | '?' << shift;
            LoopInduction x = new LoopInduction();
            feedBlanks(x);
            due("fed", x.feed(numbers[0], numbers[1], numbers[2], numbers[3], numbers[4]), 40);
            due("text", x.text(), -2);
            due("place", x.place(), 20 + n);
        }
        LoopInduction high = new LoopInduction();
        due("bytes above 127", high.feed(0x20202080, 0x80ffffff, -1, -1, -1), 20);
        due("refused", high.text(), -2);
        due("at the first of them", high.place(), 3);
        LoopInduction letters = Checks.loop(LEAST);
        letters.feed(0x613d3520, BLANKS, BLANKS, BLANKS, BLANKS);
        due("a=5", letters.ask(0), 256);
    }

    private static void sizes() {
        LoopInduction x = new LoopInduction();
        for (int n = 1; n <= 60; n++) {
            due("feed", feedBlanks(x), 20 * n);
        }
        LoopInduction odd = new LoopInduction();
        feedBlanks(odd);
        odd.end(7);
        due("behind a cut", feedBlanks(odd), 27);
        due("on", feedBlanks(odd), 47);
    }

    private static void fullTape() {
        LoopInduction x = new LoopInduction();
        Checks.put(x, LEAST + " ".repeat(1200 - LEAST.length()));
        for (int n = 0; n < 3; n++) {
            due("1220", x.feed(-1, -1, -1, -1, -1), -1);
        }
        due("1200 are there", x.end(20), 1200);
        due("none came", x.text(), 1);
        for (int over = 1; over <= 19; over++) {
            LoopInduction near = new LoopInduction();
            Checks.put(near, " ".repeat(1180 + over));
            due("over by " + over, near.feed(-1, -1, -1, -1, -1), -1);
            due("none came, not even a part", near.text(), -2);
            due("blanks to the end", near.place(), 1180 + over);
        }
        LoopInduction fits = new LoopInduction();
        Checks.put(fits, " ".repeat(1180));
        due("1200 fit", feedBlanks(fits), 1200);
        due("cut", fits.end(0), 1180);
        due("room again", feedBlanks(fits), 1200);
        due("full again", feedBlanks(fits), -1);
        due("read", fits.text(), -2);
        due("room behind text()", feedBlanks(fits), 20);
    }

    private static void cut() {
        for (int n = 0; n <= 20; n++) {
            LoopInduction x = new LoopInduction();
            feedBlanks(x);
            // ?s, of which the first n stay
            x.feed(0x3f3f3f3f, 0x3f3f3f3f, 0x3f3f3f3f, 0x3f3f3f3f, 0x3f3f3f3f);
            due("stay " + n, x.end(n), 20 + n);
            due("text", x.text(), -2);
            due("the first ?, or the length", x.place(), 20);
        }
        LoopInduction first = new LoopInduction();
        Checks.put(first, "                  ?!");
        due("18 stay", first.end(18), 18);
        due("text", first.text(), -2);
        due("all blanks", first.place(), 18);
        LoopInduction again = new LoopInduction();
        Checks.put(again, " ".repeat(60));
        due("60 less 1", again.end(19), 59);
        due("the last 20 are others now", again.end(5), 44);
        due("and again", again.end(0), 24);
        due("and again to 4", again.end(0), 4);
        due("then no more", again.end(0), -1);
        LoopInduction rest = new LoopInduction();
        Checks.put(rest, "begin a=0; ");
        due("what was cut is gone", feedBlanks(rest), 31);
        due("cut", rest.end(0), 11);
        Checks.put(rest, "when a=0 do a=1; goal a=0;");
        due("a loop in two parts", rest.text(), 1);
    }

    private static void cutNone() {
        LoopInduction x = new LoopInduction();
        Checks.put(x, " ".repeat(40));
        for (int n : new int[] {-1, 21, -20, 40, 256, Integer.MAX_VALUE, Integer.MIN_VALUE, -2, 22}) {
            due("end " + n, x.end(n), -1);
        }
        due("nothing went", feedBlanks(x), 60);
        due("20 is one", x.end(20), 60);
        due("0 is one", x.end(0), 40);
    }

    private static void cutTooFew() {
        LoopInduction x = new LoopInduction();
        for (int n = -1; n <= 21; n++) {
            due("empty", x.end(n), -1);
        }
        for (int size = 1; size < 20; size++) {
            LoopInduction few = new LoopInduction();
            feedBlanks(few);
            due("cut to " + size, few.end(size), size);
            due("not 20", few.end(0), -1);
            due("not 20 for 20", few.end(20), -1);
            due("nothing went", feedBlanks(few), size + 20);
            due("20 again", few.end(0), size);
        }
        LoopInduction just = new LoopInduction();
        feedBlanks(just);
        due("just 20", just.end(0), 0);
        due("none is left", just.end(0), -1);
        feedBlanks(just);
        just.text();
        due("none behind text()", just.end(0), -1);
    }

    // ---- promises 4 and 5

    private static void reading() {
        CHECKS.sentence("4: the tape is a LOOP, in place of the one before", TextEdgeTest::inPlace);
        CHECKS.sentence("4: and is empty then", TextEdgeTest::emptyThen);
        CHECKS.sentence("4: -2 with a FAULT (the LOOP before stays)", TextEdgeTest::loopStays);
        CHECKS.sentence("4: with a FAULT the tape is empty, too", TextEdgeTest::emptyWithFault);
        CHECKS.sentence("4: a LOOP of 1200 bytes", TextEdgeTest::wholeTape);
        CHECKS.sentence("5: where THE FAULT of the latest text() lies", TextEdgeTest::latest);
        CHECKS.sentence("5: NONE before any text() and behind one without a FAULT", TextEdgeTest::noPlace);
    }

    private static void inPlace() {
        LoopInduction x = Checks.loop("begin b=0; when b<9 do b=b+1; when b=9 do c=1,a=2; goal b<8; guess b<4; guess 0=0; rank b;");
        due("counter", x.counter(8), 128);
        due("another", Checks.text(x, "begin a=5; when a=5 do a=6; goal a<7;"), 1);
        due("choices", x.told(0), 1);
        due("guesses", x.told(1), 0);
        due("unaries", x.told(2), 7);
        due("rank", x.told(3), 0);
        due("begin", x.has(0, 0), 0);
        due("new begin", x.has(5, 0), 1);
        due("guess", x.has(0, 4), -1);
        due("reached", x.many(2), 512);
        due("choice", x.next(5, 0), 6);
        due("second choice", x.next(144, 1), -1);
        due("rank of 0", x.rank(0), -1);
        due("level", x.level(0), -1);
        due("counter is gone", x.counter(0), -1);
        due("kept", x.kept(), 0);
        due("gone", x.gone(0), -1);
        due("falls", x.falls(), -1);
        due("longest", x.longest(), 1);
        due("induction", x.induction(1), 1);
        due("a CHOICE of all VARIABLES", Checks.text(x, "begin a=0; when 0=0 do a=7,b=7,c=7; goal a=0;"), 1);
        due("all", x.next(0, 0), 7 + 16 * 7 + 256 * 7);
        due("a CHOICE of one", Checks.text(x, "begin a=0; when 0=0 do b=1; goal a=0;"), 1);
        due("nothing is left of all, in the first STATE", x.next(0, 0), 16);
        due("nor in the last", x.next(4095, 0), 4095 - 16 * 14);
    }

    private static void emptyThen() {
        LoopInduction x = Checks.loop(LEAST);
        due("nothing to cut", x.end(0), -1);
        due("from the start", feedBlanks(x), 20);
        due("blanks alone", x.text(), -2);
        due("their length", x.place(), 20);
        due("the loop", Checks.text(x, LEAST), 1);
        due("nothing is left to read", x.text(), -2);
        due("at 0", x.place(), 0);
    }

    private static void loopStays() {
        LoopInduction x = Checks.loop("begin a=0 and b=0 and c=0; when a<9 do a=a+1; goal a<8; guess a<12; guess b=0; rank -a;");
        for (String faulty : List.of("", "begin", "begin b=1; when b=1 do b=2,c=1; when c=1 do a=7; goal b=3; guess b=4; guess 0=1; guess a=1; rank b",
            "begin 0=1; when 0=0 do a=0; goal 0=1; rank 1; rank", "begin 0=1;")) {
            due("fault of " + faulty, Checks.text(x, faulty), -2);
            due("choices", x.told(0), 1);
            due("guesses", x.told(1), 2);
            due("unaries", x.told(2), 6 + 4 + 2 + 4 + 2);
            due("rank", x.told(3), 1);
            due("begin", x.has(0, 0), 1);
            due("goal", x.has(8, 1), 0);
            due("reached", x.has(9, 2), 1);
            due("end", x.has(9, 3), 1);
            due("guess", x.has(12, 4), 0);
            due("no third guess", x.has(12, 6), -1);
            due("next", x.next(8, 0), 9);
            due("no second choice", x.next(8, 1), -1);
            due("rank of 3", x.rank(3), 13);
            due("states", x.many(2), 10);
            due("level", x.level(9), 9);
            due("counter", x.counter(8), 8);
            due("induction", x.induction(0), 0);
            due("kept", x.kept(), 3);
            due("gone", x.gone(1), 100);
            due("follows", x.follows(), 0);
            due("falls", x.falls(), 0);
            due("longest", x.longest(), 9);
            due("ask", Checks.ask(x, "a=9", 1), 1);
        }
        LoopInduction none = new LoopInduction();
        due("fault first", Checks.text(none, "begin 0=0; when 0=0 do a=0; goal 0=0"), -2);
        due("no loop before, none then", none.told(0), -1);
        due("none to ask", none.many(1), -1);
    }

    private static void emptyWithFault() {
        LoopInduction x = new LoopInduction();
        due("fault", Checks.text(x, "begin ? and forty bytes more, all blanks        "), -2);
        due("nothing to cut", x.end(20), -1);
        due("from the start", feedBlanks(x), 20);
        due("cut", x.end(0), 0);
        due("a loop alone", Checks.text(x, LEAST), 1);
    }

    private static void wholeTape() {
        LoopInduction x = new LoopInduction();
        due("blanks behind", Checks.text(x, LEAST + " ".repeat(1200 - LEAST.length())), 1);
        due("blanks ahead", Checks.text(x, " ".repeat(1200 - LEAST.length()) + LEAST), 1);
        String text = "begin a=0;" + "when a=0 do a=1;".repeat(6) + "goal a=0;" + "guess a=0;".repeat(12) + "rank a";
        String full = text + "\n".repeat(1199 - text.length()) + ";";
        due("blanks within", Checks.text(x, full), 1);
        due("told", x.told(1), 12);
        due("one token less", Checks.text(x, full.substring(0, 1199)), -2);
        due("its length", x.place(), 1199);
    }

    private static void latest() {
        LoopInduction x = new LoopInduction();
        due("first", Checks.text(x, "begin ?"), -2);
        due("its place", x.place(), 6);
        due("again the same", x.place(), 6);
        due("second", Checks.text(x, "begin a=0; goal"), -2);
        due("place of the second", x.place(), 11);
        due("ask without a loop", Checks.ask(x, "??", 0), -1);
        due("the second's still", x.place(), 11);
        due("feed and end leave it", x.end(21), -1);
        due("still", x.place(), 11);
        x.text();
        due("the question was on the tape still", x.place(), 0);
        due("a loop", Checks.text(x, LEAST), 1);
        due("none", x.place(), -1);
        due("ask with a fault", Checks.ask(x, "a=?", 0), -2);
        due("is no text()", x.place(), -1);
        due("third", Checks.text(x, "begin a<b;"), -2);
        due("place of the third", x.place(), 10);
        due("ask", Checks.ask(x, "a=?", 0), -2);
        due("place of the third still", x.place(), 10);
        due("ask without a fault", Checks.ask(x, "a=0", 0), 256);
        due("and still", x.place(), 10);
    }

    private static void noPlace() {
        LoopInduction x = new LoopInduction();
        due("new", x.place(), -1);
        Checks.put(x, "begin ?");
        due("before text()", x.place(), -1);
        x.text();
        due("fault", x.place(), 6);
        due("loop", Checks.text(x, LEAST), 1);
        due("none again", x.place(), -1);
        due("once more", x.place(), -1);
    }
}
