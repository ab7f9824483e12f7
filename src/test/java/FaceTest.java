import java.lang.reflect.Field;
import java.lang.reflect.Member;
import java.lang.reflect.Method;
import java.lang.reflect.Modifier;
import java.nio.file.Files;
import java.nio.file.Path;
import java.util.List;
import java.util.Set;
import java.util.TreeSet;
import java.util.regex.Matcher;
import java.util.regex.Pattern;

/** The public face, and what LANGUAGE.md rules out as far as it can be seen in the source. */
public final class FaceTest {
    private static final Checks CHECKS = new Checks();
    private static final Set<String> FACE = new TreeSet<>(List.of("feed/5", "end/1", "text/0", "place/0", "told/1", "has/2",
        "next/2", "rank/1", "many/1", "level/1", "counter/1", "induction/1", "kept/0", "gone/1", "follows/0", "falls/0",
        "longest/0", "ask/1"));

    private static final Set<String> LIBRARY = Set.of("Math.min", "Math.max", "Arrays.fill", "System.arraycopy");

    public static void main(String[] args) throws Exception {
        String text = Files.readString(Path.of(System.getProperty("root"), "src/main/java/LoopInduction.java"));
        face();
        constants();
        nested();
        source(text);
        library(withoutComments(text));
        shortMethods(text);
        room(text);
        CHECKS.finish("FaceTest");
    }

    private static boolean hidden(Member member) {
        return Modifier.isPrivate(member.getModifiers()) || member.isSynthetic();
    }

    private static void face() {
        Class<?> type = LoopInduction.class;
        CHECKS.due("public final", type.getModifiers() & (Modifier.PUBLIC | Modifier.FINAL), Modifier.PUBLIC | Modifier.FINAL);
        Set<String> seen = new TreeSet<>();
        for (Method method : type.getDeclaredMethods()) {
            if (!hidden(method)) {
                seen.add(method.getName() + "/" + method.getParameterCount());
                CHECKS.due(method + " is public", Modifier.isPublic(method.getModifiers()) ? 1 : 0, 1);
                CHECKS.due(method + " answers an int", method.getReturnType() == int.class ? 1 : 0, 1);
                for (Class<?> parameter : method.getParameterTypes()) {
                    CHECKS.due(method + " takes ints", parameter == int.class ? 1 : 0, 1);
                }
            } else {
                CHECKS.due(method + " bears its own name", isOfFace(method) ? 1 : 0, 0);
            }
        }
        CHECKS.due("methods " + seen, seen.equals(FACE) ? 1 : 0, 1);
        CHECKS.due("constructors", type.getDeclaredConstructors().length, 1);
        CHECKS.due("parameters of the constructor", type.getConstructors()[0].getParameterCount(), 0);
        for (Field field : type.getDeclaredFields()) {
            CHECKS.due(field + " is hidden", hidden(field) || field.getName().equals("NONE") ? 1 : 0, 1);
        }
    }

    private static boolean isOfFace(Method method) {
        return FACE.stream().anyMatch(f -> f.startsWith(method.getName() + "/"));
    }

    private static void constants() throws Exception {
        Field none = LoopInduction.class.getField("NONE");
        int kind = Modifier.PUBLIC | Modifier.STATIC | Modifier.FINAL;
        CHECKS.due("NONE is public static final", none.getModifiers(), kind);
        CHECKS.due("NONE is an int", none.getType() == int.class ? 1 : 0, 1);
        CHECKS.due("NONE", none.getInt(null), -1);
    }

    private static void nested() {
        Class<?>[] inside = LoopInduction.class.getDeclaredClasses();
        CHECKS.due("classes", inside.length < 12 ? 1 : 0, 1);
        for (Class<?> type : inside) {
            CHECKS.due(type + " is static", Modifier.isStatic(type.getModifiers()) ? 1 : 0, 1);
            int fields = 0;
            for (Field field : type.getDeclaredFields()) {
                int kind = field.getModifiers();
                CHECKS.due(field + " is no static state", !Modifier.isStatic(kind) || Modifier.isFinal(kind) ? 1 : 0, 1);
                fields += Modifier.isStatic(kind) ? 0 : 1;
            }
            CHECKS.due(type + " has few fields", fields <= 20 ? 1 : 0, 1);
            for (Method method : type.getDeclaredMethods()) {
                CHECKS.due(method + " bears its own name", isOfFace(method) ? 1 : 0, 0);
                CHECKS.due(method + " has few parameters", method.getParameterCount() <= 7 ? 1 : 0, 1);
            }
        }
    }

    private static void source(String text) {
        for (String word : List.of("throw", "throws", "try", "catch", "synchronized", "assert", "Exact", "->", "::",
            "Random", "package", "protected", "instanceof", "equals", "hashCode", "toString")) {
            String pattern = word.matches("\\w+") ? "\\b" + word + "\\b" : Pattern.quote(word);
            CHECKS.due("no " + word, Pattern.compile(pattern).matcher(text).find() ? 1 : 0, 0);
        }
        CHECKS.due("imports", Pattern.compile("(?m)^import ").split(text).length, 2);
    }

    private static String withoutComments(String text) {
        return text.replaceAll("(?s)/\\*.*?\\*/", "").replaceAll("//.*", "");
    }

    /** What is called by a library class's name, and that nothing divides. */
    private static void library(String code) {
        Matcher calls = Pattern.compile("\\b(Math|Arrays|System|Integer|Long|String)\\.\\w+").matcher(code);
        while (calls.find()) {
            CHECKS.due(calls.group() + " is of the library", LIBRARY.contains(calls.group()) ? 1 : 0, 1);
        }
        CHECKS.due("nothing divides", code.contains("/") || code.contains("%") ? 1 : 0, 0);
    }

    /** A method ends at the first line that closes a brace as far in as the method's own line. */
    private static void shortMethods(String text) {
        Matcher methods = Pattern.compile("(?m)^( +)(?!if|for|while|switch)\\w[^;=]*\\) \\{$").matcher(text);
        int seen = 0;
        while (methods.find()) {
            int stop = text.indexOf("\n" + methods.group(1) + "}", methods.end());
            long lines = text.substring(methods.start(), Math.max(stop, methods.end())).lines().count();
            CHECKS.due("few lines in" + methods.group(), lines <= 60 ? 1 : 0, 1);
            seen++;
        }
        CHECKS.due("methods were found: " + seen, seen > 100 ? 1 : 0, 1);
    }

    /** The elements of all rows that an object holds; no call makes more. */
    private static void room(String text) {
        String[] parts = text.split("new (int|byte)\\[");
        CHECKS.due("rows are made in a few places only", parts.length - 1 <= 24 ? 1 : 0, 1);
        com.sun.management.ThreadMXBean bean =
            (com.sun.management.ThreadMXBean) java.lang.management.ManagementFactory.getThreadMXBean();
        LoopInduction x = Checks.loop("begin a=0; when a<9 do a=a+1; goal a<8; guess a<9; rank -a;");
        queries(x);
        long self = bean.getThreadAllocatedBytes(Thread.currentThread().getId());
        long before = bean.getThreadAllocatedBytes(Thread.currentThread().getId());
        for (int n = 0; n < 20; n++) {
            queries(x);
        }
        long after = bean.getThreadAllocatedBytes(Thread.currentThread().getId());
        CHECKS.due("queries make nothing: " + (after - before), after - before <= 2 * (before - self) + 4096 ? 1 : 0, 1);
    }

    private static void queries(LoopInduction x) {
        x.feed(0x613d3020, 0x20202020, 0x20202020, 0x20202020, 0x20202020);
        x.ask(3);
        x.text();
        x.many(5);
        x.induction(1);
        x.longest();
        x.counter(3);
        x.follows();
        x.falls();
    }
}
