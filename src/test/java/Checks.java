import java.nio.charset.StandardCharsets;
import java.util.Arrays;

/** Counts answers, tells the wrong ones, and brings texts to a tape. */
final class Checks {
    private int passed = 0;
    private int failed = 0;
    private String subject = "";

    /** What the wrong answers that follow are about. */
    void about(String text) {
        subject = text;
    }

    void due(String what, long got, long want) {
        if (got == want) {
            passed++;
        } else {
            failed++;
            if (failed <= 50) {
                System.out.println(what + " answered " + got + ", due is " + want + (subject.isEmpty() ? "" : ", in: " + subject));
            }
        }
    }

    void finish(String name) {
        System.out.println(name + ": " + passed + " passed, " + failed + " failed");
        if (failed != 0) {
            System.exit(1);
        }
    }

    static byte[] bytes(String text) {
        return text.getBytes(StandardCharsets.ISO_8859_1);
    }

    /** Feeds the text in twenties, the last one filled with blanks and cut; the tape must have room. */
    static void put(LoopInduction x, String text) {
        byte[] all = bytes(text);
        for (int from = 0; from < all.length; from += 20) {
            byte[] portion = new byte[20];
            Arrays.fill(portion, (byte) ' ');
            int length = Math.min(20, all.length - from);
            System.arraycopy(all, from, portion, 0, length);
            x.feed(number(portion, 0), number(portion, 4), number(portion, 8), number(portion, 12), number(portion, 16));
            if (length < 20) {
                x.end(length);
            }
        }
    }

    private static int number(byte[] row, int at) {
        return (row[at] & 255) << 24 | (row[at + 1] & 255) << 16 | (row[at + 2] & 255) << 8 | row[at + 3] & 255;
    }

    static int text(LoopInduction x, String text) {
        put(x, text);
        return x.text();
    }

    static int ask(LoopInduction x, String cond, int kind) {
        put(x, cond);
        return x.ask(kind);
    }

    static LoopInduction loop(String text) {
        LoopInduction x = new LoopInduction();
        if (text(x, text) != 1) {
            throw new IllegalStateException("not taken at " + x.place() + ": " + text);
        }
        return x;
    }
}
