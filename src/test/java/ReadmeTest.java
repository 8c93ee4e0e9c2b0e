import java.io.ByteArrayOutputStream;
import java.io.IOException;
import java.lang.reflect.Method;
import java.lang.reflect.Modifier;
import java.nio.charset.StandardCharsets;
import java.nio.file.Files;
import java.nio.file.Path;
import java.util.List;
import java.util.StringJoiner;
import javax.tools.JavaCompiler;
import javax.tools.ToolProvider;

/** What README.md says of the class's use holds: its example, compiled and run, prints what it says. */
public final class ReadmeTest {
    private static final Check CHECK = new Check("ReadmeTest");
    private static final Path OUT = Path.of("build", "readme");

    public static void main(String[] args) throws IOException, InterruptedException {
        List<String> readme = Files.readAllLines(Path.of("README.md"), StandardCharsets.UTF_8);
        exampleHolds(block(readme, "```java"), block(readme, "```text"));
        everyCallIsTold(readme);
        holds("README.md says how the tests are run", block(readme, "```sh").equals(".ci/run\n"));
        CHECK.end();
    }

    private static void exampleHolds(String example, String told) throws IOException, InterruptedException {
        Files.createDirectories(OUT);
        Path file = OUT.resolve("Example.java");
        Files.writeString(file, example);
        JavaCompiler compiler = ToolProvider.getSystemJavaCompiler();
        String out = OUT.toString();
        int failed = compiler.run(null, null, null, "-d", out, "src/main/java/StyleRows.java", file.toString());
        CHECK.due("the compiler on README.md's example", failed, 0);
        String printed = failed == 0 ? printed(out) : "";
        if (!printed.equals(told)) {
            System.out.println("README.md's example prints:\n" + printed);
        }
        holds("README.md's example prints what stands below it", !told.isEmpty() && printed.equals(told));
    }

    private static String printed(String out) throws IOException, InterruptedException {
        String java = Path.of(System.getProperty("java.home"), "bin", "java").toString();
        Process run = new ProcessBuilder(java, "-cp", out, "Example").redirectErrorStream(true).start();
        ByteArrayOutputStream printed = new ByteArrayOutputStream();
        run.getInputStream().transferTo(printed);
        CHECK.due("the exit code of README.md's example", run.waitFor(), 0);
        return printed.toString(StandardCharsets.UTF_8);
    }

    private static void everyCallIsTold(List<String> readme) {
        for (Method method : StyleRows.class.getDeclaredMethods()) {
            if (Modifier.isPublic(method.getModifiers())) {
                String row = "| `" + method.getName() + "(";
                int parameters = method.getParameterCount();
                long told = readme.stream().filter(line -> line.startsWith(row) && told(line) == parameters).count();
                CHECK.due("rows of README.md that tell " + method.getName(), told, 1);
            }
        }
    }

    /** How many parameters a row of the table names. */
    private static int told(String row) {
        String list = row.substring(row.indexOf('(') + 1, row.indexOf(')'));
        return list.isEmpty() ? 0 : list.split(", ").length;
    }

    /** The lines of the first block that begins so. */
    private static String block(List<String> readme, String fence) {
        StringJoiner block = new StringJoiner("\n", "", "\n");
        block.setEmptyValue("");
        int from = readme.indexOf(fence);
        for (int i = from + 1; from >= 0 && i < readme.size() && !readme.get(i).equals("```"); i++) {
            block.add(readme.get(i));
        }
        return block.toString();
    }

    private static void holds(String what, boolean holds) {
        CHECK.due(what, holds ? 1 : 0, 1);
    }
}
