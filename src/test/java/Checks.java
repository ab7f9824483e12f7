import java.nio.charset.StandardCharsets;
import java.util.Arrays;

/** Counts answers, tells the wrong ones, and brings texts to a tape. */
final class Checks {
    private int passed = 0;
    private int failed = 0;
    private int sentences = 0;
    private String subject = "";

    /** What the wrong answers that follow are about. */
    void about(String text) {
        subject = text;
    }

    void due(String what, long got, long want) {
        if (got == want) {
            passed++;
        } else {
            failed++;
            if (failed <= 50) {
                System.out.println(what + " answered " + got + ", due is " + want + (subject.isEmpty() ? "" : ", of: " + subject));
            }
        }
    }

    /** A sentence of the document, with the checks that are its own; it must have at least one. */
    void sentence(String words, Runnable checks) {
        int before = passed + failed;
        about(words);
        sentences++;
        try {
            checks.run();
        } catch (RuntimeException thrown) {
            due("no exception, but " + thrown, 1, 0);
        }
        due("checks of its own", passed + failed > before ? 1 : 0, 1);
        about("");
    }

    /** The text must be refused with its fault where the mark ^ stands; the mark is taken out. */
    void faultAt(String marked) {
        int place = marked.indexOf('^');
        fault(marked.substring(0, place) + marked.substring(place + 1), place);
    }

    void fault(String text, int place) {
        LoopInduction x = new LoopInduction();
        due("fault of: " + text, text(x, text), -2);
        due("place in: " + text, x.place(), place);
    }

    void good(String text) {
        LoopInduction x = new LoopInduction();
        due("good: " + text, text(x, text), 1);
        due("no place in: " + text, x.place(), -1);
    }

    void finish(String name) {
        String read = sentences > 0 ? sentences + " sentences, " : "";
        System.out.println(name + ": " + read + passed + " passed, " + failed + " failed");
        if (failed != 0) {
            System.exit(1);
        }
    }

    static byte[] bytes(String text) {
        return text.getBytes(StandardCharsets.ISO_8859_1);
    }

    /** Feeds the text in twenties, the last one filled with blanks and cut; the tape must have room. */
    static void put(LoopInduction x, String text) {
        byte[] all = bytes(text);
        for (int from = 0; from < all.length; from += 20) {
            byte[] portion = new byte[20];
            Arrays.fill(portion, (byte) ' ');
            int length = Math.min(20, all.length - from);
            System.arraycopy(all, from, portion, 0, length);
            x.feed(number(portion, 0), number(portion, 4), number(portion, 8), number(portion, 12), number(portion, 16));
            if (length < 20) {
                x.end(length);
            }
        }
    }

    private static int number(byte[] row, int at) {
        return (row[at] & 255) << 24 | (row[at + 1] & 255) << 16 | (row[at + 2] & 255) << 8 | row[at + 3] & 255;
    }

    static int text(LoopInduction x, String text) {
        put(x, text);
        return x.text();
    }

    static int ask(LoopInduction x, String cond, int kind) {
        put(x, cond);
        return x.ask(kind);
    }

    static LoopInduction loop(String text) {
        LoopInduction x = new LoopInduction();
        if (text(x, text) != 1) {
            throw new IllegalStateException("not taken at " + x.place() + ": " + text);
        }
        return x;
    }
}
