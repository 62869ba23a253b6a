import java.io.IOException;
import java.lang.reflect.Method;
import java.lang.reflect.Modifier;
import java.net.URL;
import java.net.URLClassLoader;
import java.nio.charset.StandardCharsets;
import java.nio.file.Files;
import java.nio.file.Path;
import java.nio.file.Paths;
import java.util.ArrayList;
import java.util.List;
import java.util.regex.Matcher;
import java.util.regex.Pattern;
import javax.tools.ToolProvider;

/**
 * README.md tells what is so: its Java is compiled and run, and each call answers what stands behind it.
 * A block that begins with "static" is a helper, any other one a run.
 */
public final class ReadmeTest {
    private static final Pattern BLOCK = Pattern.compile("(?s)```java\n(.*?)```");
    private static final Pattern ANSWERED = Pattern.compile("(x\\..*\\)); +// (-?\\d+|true|false)(:.*)?");

    private static String readme() throws IOException {
        return new String(Files.readAllBytes(Paths.get("README.md")), StandardCharsets.UTF_8);
    }

    /** The run as code that gathers its answers; those that are due go to the list. */
    private static String gathering(String run, List<String> due) {
        StringBuilder code = new StringBuilder();
        for (String line : run.split("\n")) {
            Matcher m = ANSWERED.matcher(line);
            if (m.matches()) {
                due.add(m.group(1) + " " + m.group(2));
                code.append("got.add(").append(m.group(1)).append(");\n");
            } else {
                Check.isSo("without an answer: " + line, !line.startsWith("x."));
                code.append(line).append('\n');
            }
        }
        return code.toString();
    }

    private static String program(String readme, List<String> due) {
        StringBuilder helpers = new StringBuilder();
        StringBuilder runs = new StringBuilder();
        Matcher block = BLOCK.matcher(readme);
        while (block.find()) {
            if (block.group(1).startsWith("static")) {
                helpers.append(block.group(1));
            } else {
                runs.append("{\n").append(gathering(block.group(1), due)).append("}\n");
            }
        }
        return "public class ReadmeRun {\n" + helpers + "public static java.util.List<Object> run() {\n"
                + "java.util.List<Object> got = new java.util.ArrayList<>();\n" + runs + "return got;\n}\n}\n";
    }

    private static List<?> answers(String program) throws Exception {
        Path place = Files.createTempDirectory("readme");
        Path source = place.resolve("ReadmeRun.java");
        Path classFile = place.resolve("ReadmeRun.class");
        try {
            Files.write(source, program.getBytes(StandardCharsets.UTF_8));
            int failed = ToolProvider.getSystemJavaCompiler().run(null, null, null, "-d", place.toString(),
                    "-cp", System.getProperty("java.class.path"), source.toString());
            Check.due("the compiler, of README.md's Java", failed, 0);
            try (URLClassLoader loader = new URLClassLoader(new URL[] {place.toUri().toURL()})) {
                return failed == 0 ? (List<?>) loader.loadClass("ReadmeRun").getMethod("run").invoke(null) : List.of();
            }
        } finally {
            Files.deleteIfExists(source);
            Files.deleteIfExists(classFile);
            Files.deleteIfExists(place);
        }
    }

    public static void main(String[] args) throws Exception {
        String readme = readme();
        List<String> due = new ArrayList<>();
        List<?> got = answers(program(readme, due));
        Check.isSo("README.md has a run", !due.isEmpty());
        Check.due("answers of README.md's run", got.size(), due.size());
        for (int i = 0; i < Math.min(got.size(), due.size()); i++) {
            int cut = due.get(i).lastIndexOf(' ');
            Check.isSo(due.get(i).substring(0, cut) + " is " + got.get(i) + ", in README.md " + due.get(i).substring(cut + 1),
                    due.get(i).substring(cut + 1).equals(String.valueOf(got.get(i))));
        }
        for (Method m : CountedTwice.class.getDeclaredMethods()) {
            if (Modifier.isPublic(m.getModifiers())) {
                Check.isSo("in README.md: " + m.getName(), readme.contains("`" + m.getName() + "("));
            }
        }
        Check.close("ReadmeTest");
    }
}
