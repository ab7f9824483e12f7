import java.lang.reflect.Field;
import java.lang.reflect.Member;
import java.lang.reflect.Method;
import java.lang.reflect.Modifier;
import java.nio.file.Files;
import java.nio.file.Path;
import java.util.List;
import java.util.Set;
import java.util.TreeSet;
import java.util.regex.Pattern;

/** The public face, and what LANGUAGE.md rules out as far as it can be seen in the source. */
public final class FaceTest {
    private static final Checks CHECKS = new Checks();
    private static final Set<String> FACE = new TreeSet<>(List.of("feed/5", "end/1", "text/0", "place/0", "told/1", "has/2",
        "next/2", "rank/1", "many/1", "level/1", "counter/1", "induction/1", "kept/0", "gone/1", "follows/0", "falls/0",
        "longest/0", "ask/1"));

    public static void main(String[] args) throws Exception {
        face();
        nested();
        source(Files.readString(Path.of(System.getProperty("source"))));
        room();
        CHECKS.finish("FaceTest");
    }

    private static boolean hidden(Member member) {
        return Modifier.isPrivate(member.getModifiers()) || member.isSynthetic();
    }

    private static void face() {
        Class<?> type = LoopInduction.class;
        CHECKS.due("public final", type.getModifiers() & (Modifier.PUBLIC | Modifier.FINAL), Modifier.PUBLIC | Modifier.FINAL);
        Set<String> seen = new TreeSet<>();
        for (Method method : type.getDeclaredMethods()) {
            if (!hidden(method)) {
                seen.add(method.getName() + "/" + method.getParameterCount());
                CHECKS.due(method + " is public", Modifier.isPublic(method.getModifiers()) ? 1 : 0, 1);
                CHECKS.due(method + " answers an int", method.getReturnType() == int.class ? 1 : 0, 1);
            }
        }
        CHECKS.due("methods " + seen, seen.equals(FACE) ? 1 : 0, 1);
        CHECKS.due("constructors", type.getConstructors().length, 1);
        for (Field field : type.getDeclaredFields()) {
            CHECKS.due(field + " is hidden", hidden(field) || field.getName().equals("NONE") ? 1 : 0, 1);
        }
    }

    private static void nested() {
        Class<?>[] inside = LoopInduction.class.getDeclaredClasses();
        CHECKS.due("classes", inside.length < 12 ? 1 : 0, 1);
        for (Class<?> type : inside) {
            CHECKS.due(type + " is static", Modifier.isStatic(type.getModifiers()) ? 1 : 0, 1);
            for (Field field : type.getDeclaredFields()) {
                int kind = field.getModifiers();
                CHECKS.due(field + " is no static state", !Modifier.isStatic(kind) || Modifier.isFinal(kind) ? 1 : 0, 1);
            }
            for (Method method : type.getDeclaredMethods()) {
                CHECKS.due(method + " bears its own name", FACE.stream().anyMatch(f -> f.startsWith(method.getName() + "/")) ? 1 : 0, 0);
                CHECKS.due(method + " has few parameters", method.getParameterCount() <= 7 ? 1 : 0, 1);
            }
        }
    }

    private static void source(String text) {
        for (String word : List.of("throw", "throws", "try", "catch", "synchronized", "assert", "Exact", "->", "::",
            "System.nanoTime", "System.currentTimeMillis", "Random", "package", "protected")) {
            String pattern = word.matches("\\w+") ? "\\b" + word + "\\b" : Pattern.quote(word);
            CHECKS.due("no " + word, Pattern.compile(pattern).matcher(text).find() ? 1 : 0, 0);
        }
        CHECKS.due("imports", Pattern.compile("(?m)^import ").split(text).length, 2);
    }

    /** The elements of all rows that an object holds; no call makes more. */
    private static void room() throws Exception {
        String[] parts = Files.readString(Path.of(System.getProperty("source"))).split("new (int|byte)\\[");
        CHECKS.due("rows are made in a few places only", parts.length - 1 <= 24 ? 1 : 0, 1);
        com.sun.management.ThreadMXBean bean =
            (com.sun.management.ThreadMXBean) java.lang.management.ManagementFactory.getThreadMXBean();
        LoopInduction x = Checks.loop("begin a=0; when a<9 do a=a+1; goal a<8; guess a<9; rank -a;");
        queries(x);
        long self = bean.getThreadAllocatedBytes(Thread.currentThread().getId());
        long before = bean.getThreadAllocatedBytes(Thread.currentThread().getId());
        for (int n = 0; n < 20; n++) {
            queries(x);
        }
        long after = bean.getThreadAllocatedBytes(Thread.currentThread().getId());
        CHECKS.due("queries make nothing: " + (after - before), after - before <= 2 * (before - self) + 4096 ? 1 : 0, 1);
    }

    private static void queries(LoopInduction x) {
        x.feed(0x613d3020, 0x20202020, 0x20202020, 0x20202020, 0x20202020);
        x.ask(3);
        x.text();
        x.many(5);
        x.induction(1);
        x.longest();
        x.counter(3);
        x.follows();
        x.falls();
    }
}
