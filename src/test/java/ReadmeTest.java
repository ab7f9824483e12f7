import java.io.ByteArrayOutputStream;
import java.io.IOException;
import java.io.PrintStream;
import java.lang.reflect.Method;
import java.nio.charset.StandardCharsets;
import java.nio.file.Files;
import java.nio.file.Path;

/** README.md must not tell of another program than the one that stands here. */
public final class ReadmeTest {
    private static final Checks CHECKS = new Checks();
    private static final String ROOT = System.getProperty("root");

    public static void main(String[] args) throws IOException {
        String readme = Files.readString(Path.of(ROOT, "README.md"));
        String example = Files.readString(Path.of(ROOT, "src/test/java/Example.java"));
        same("the program shown", block(readme, "java", "This is `src/test/java/Example.java`:"), example);
        same("what it prints", block(readme, "text", "It prints:"), printed());
        everyCall(readme.substring(readme.indexOf("### Calls")));
        testsAreNamed(readme.substring(readme.indexOf("## Tests")));
        CHECKS.finish("ReadmeTest");
    }

    private static String block(String readme, String kind, String behind) {
        String fence = "```" + kind + "\n";
        int from = readme.indexOf(fence, Math.max(0, readme.indexOf(behind))) + fence.length();
        return readme.substring(from, readme.indexOf("```", from));
    }

    private static void same(String what, String got, String want) {
        CHECKS.about("README: <" + got + "> and here: <" + want + ">");
        CHECKS.due(what, got.equals(want) ? 1 : 0, 1);
        CHECKS.about("");
    }

    private static String printed() {
        PrintStream before = System.out;
        ByteArrayOutputStream bytes = new ByteArrayOutputStream();
        System.setOut(new PrintStream(bytes, true, StandardCharsets.UTF_8));
        Example.main(new String[0]);
        System.setOut(before);
        return bytes.toString(StandardCharsets.UTF_8).replace("\r\n", "\n");
    }

    private static void everyCall(String calls) {
        for (Method method : LoopInduction.class.getMethods()) {
            if (method.getDeclaringClass() == LoopInduction.class) {
                CHECKS.due("README tells of " + method.getName(), calls.contains("`" + method.getName() + "(") ? 1 : 0, 1);
            }
        }
    }

    private static void testsAreNamed(String tests) throws IOException {
        try (var files = Files.newDirectoryStream(Path.of(ROOT, "src/test/java"), "*Test.java")) {
            for (Path file : files) {
                String name = file.getFileName().toString().replace(".java", "");
                CHECKS.due("README tells of " + name, tests.contains("`" + name + "`") ? 1 : 0, 1);
            }
        }
    }
}
