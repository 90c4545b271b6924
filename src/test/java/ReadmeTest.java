import java.io.ByteArrayOutputStream;
import java.io.File;
import java.io.IOException;
import java.io.InputStream;
import java.lang.reflect.Method;
import java.lang.reflect.Modifier;
import java.nio.file.Files;
import java.nio.file.Path;
import java.util.ArrayList;
import java.util.HashMap;
import java.util.List;
import java.util.Map;
import java.util.TreeSet;
import java.util.regex.Matcher;
import java.util.regex.Pattern;
import javax.tools.ToolProvider;

/** README.md tells the truth: its example, its table of refused calls, and its tests. */
public final class ReadmeTest {
    private static final Pattern PROMISED = Pattern.compile("## Promise \\d+: (.*)");
    private static final Pattern THROWS = Pattern.compile("Throws (`\\w+` if .*)");
    private static final Pattern NAME = Pattern.compile("`(\\w+)`");
    private static final Pattern ANSWER = Pattern.compile("println\\(.*\\); +// ([^:]+): .+");

    private ReadmeTest() {
    }

    private static List<String> exampleLines(List<String> readme) {
        int first = readme.indexOf("```java") + 1;
        return readme.subList(first, first + readme.subList(first, readme.size()).indexOf("```"));
    }

    private static void exampleAnswers(List<String> example) throws IOException, InterruptedException {
        List<String> due = new ArrayList<>();
        for (String line : example) {
            Matcher answer = ANSWER.matcher(line);
            if (answer.find()) {
                due.add(answer.group(1));
            }
        }
        Check.same("the example has answers", due.size() > 10, true);
        Path directory = Files.createTempDirectory("readme");
        Path file = directory.resolve("Example.java");
        Files.write(file, example);
        int compiled = ToolProvider.getSystemJavaCompiler().run(null, null, null, "-d", directory.toString(),
                "src/main/java/SlateRoof.java", file.toString());
        Check.same("the example compiles", compiled, 0);
        Check.same("the example's answers", printed(directory), String.join("\n", due));
        for (File made : directory.toFile().listFiles()) {
            made.delete();
        }
        directory.toFile().delete();
    }

    private static String printed(Path directory) throws IOException, InterruptedException {
        String java = Path.of(System.getProperty("java.home"), "bin", "java").toString();
        ProcessBuilder example = new ProcessBuilder(java, "-cp", directory.toString(), "Example");
        Process run = example.redirectErrorStream(true).start();
        ByteArrayOutputStream bytes = new ByteArrayOutputStream();
        try (InputStream output = run.getInputStream()) {
            output.transferTo(bytes);
        }
        Check.same("the example ends well", run.waitFor(), 0);
        return bytes.toString().replace("\r", "").trim();
    }

    private static Map<String, String> refusalsOfDocument() throws IOException {
        Map<String, String> refusals = new HashMap<>();
        String call = "";
        for (String line : Files.readAllLines(Path.of("../shared/DOC.md"))) {
            Matcher promised = PROMISED.matcher(line);
            Matcher thrown = THROWS.matcher(line);
            if (promised.matches()) {
                call = promised.group(1);
            } else if (thrown.matches()) {
                refusals.merge(call, thrown.group(1), (first, next) -> first + "; " + next);
            }
        }
        return refusals;
    }

    private static Map<String, String> refusalsOf(List<String> readme) {
        Map<String, String> refusals = new HashMap<>();
        int first = readme.indexOf("| call | throws |") + 2;
        for (String row : readme.subList(first, readme.indexOf("## Tests"))) {
            String[] cells = row.split(" ?\\| ?");
            Matcher call = NAME.matcher(cells.length > 2 ? cells[1] : "");
            while (call.find()) {
                refusals.put(call.group(1), cells[2]);
            }
        }
        return refusals;
    }

    private static void refusedCalls(List<String> readme) throws IOException {
        Map<String, String> due = refusalsOfDocument();
        Map<String, String> told = refusalsOf(readme);
        for (Method method : SlateRoof.class.getDeclaredMethods()) {
            if (Modifier.isPublic(method.getModifiers())) {
                String call = method.getName();
                Check.same("what " + call + " throws", told.getOrDefault(call, "is not told"),
                        due.getOrDefault(call, "nothing: they are never refused"));
                told.remove(call);
            }
        }
        Check.same("calls that there are not", told.keySet().toString(), "[]");
    }

    private static void tests(List<String> readme) {
        TreeSet<String> named = new TreeSet<>();
        TreeSet<String> there = new TreeSet<>();
        int first = readme.indexOf("| test | what it looks at | its helpers |") + 2;
        for (String row : readme.subList(first, readme.size())) {
            Matcher name = NAME.matcher(row);
            while (row.startsWith("|") && name.find()) {
                named.add(name.group(1));
            }
        }
        for (String file : new File("src/test/java").list()) {
            there.add(file.replace(".java", ""));
        }
        Check.same("the tests and their helpers", named.toString(), there.toString());
    }

    public static void main(String[] args) throws IOException, InterruptedException {
        List<String> readme = Files.readAllLines(Path.of("README.md"));
        exampleAnswers(exampleLines(readme));
        refusedCalls(readme);
        tests(readme);
        Check.end("ReadmeTest");
    }
}
