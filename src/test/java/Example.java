/** The program that README.md shows. */
public final class Example {
    public static void main(String[] args) {
        LoopInduction x = new LoopInduction();
        put(x, "begin a=0 and b=10 and c=0; when a<b do a=a+1; when a<b do b=b-1;"
            + " goal not b<a; guess b<11; guess a<5; guess c=0; rank b-a;");
        tell("text()", x.text());
        tell("many(2)", x.many(2));
        tell("next(160, 0)", x.next(160, 0));
        tell("induction(0)", x.induction(0));
        tell("kept()", x.kept());
        tell("gone(1)", x.gone(1));
        tell("falls()", x.falls());
        tell("longest()", x.longest());
        put(x, "a=5 and b=5");
        tell("ask(2)", x.ask(2));

        put(x, "begin a=0 and b=0 and c=0; when a<9 do a=a+4; goal a<8;");
        tell("text()", x.text());
        tell("induction(0)", x.induction(0));
        for (int i = 0; x.counter(i) != LoopInduction.NONE; i++) {
            tell("counter(" + i + ")", x.counter(i));
        }

        put(x, "begin a=16;");
        tell("text()", x.text());
        tell("place()", x.place());
    }

    /** Twenty bytes at a time; the last ones are filled up with blanks, which end(n) takes away again. */
    static void put(LoopInduction x, String text) {
        for (int from = 0; from < text.length(); from += 20) {
            int[] five = new int[5];
            for (int i = 0; i < 20; i++) {
                int at = from + i;
                five[i / 4] = five[i / 4] << 8 | (at < text.length() ? text.charAt(at) : ' ');
            }
            x.feed(five[0], five[1], five[2], five[3], five[4]);
            if (text.length() - from < 20) {
                x.end(text.length() - from);
            }
        }
    }

    private static void tell(String call, int answer) {
        System.out.println(call + " = " + answer);
    }
}
