import java.io.File;
import java.io.IOException;
import java.net.URL;
import java.net.URLClassLoader;
import java.nio.file.Files;
import java.nio.file.Path;
import java.util.ArrayList;
import java.util.Comparator;
import java.util.List;
import java.util.regex.Matcher;
import java.util.regex.Pattern;
import java.util.stream.Stream;
import javax.tools.ToolProvider;

/** What README.md shows must be so: its calls with their answers, its report, and the names of the tests. */
public final class ReadmeRun {
    private static final Pattern CALL = Pattern.compile("(x\\.\\w+\\(.*?\\)); +// (throws )?([^\\s:]+)(: .*)?");

    /** What a call of the page answered that the page does not tell. */
    public static final List<String> WRONG = new ArrayList<>();

    private static int calls;

    public static void main(String[] args) throws Exception {
        String page = Files.readString(Path.of("README.md"));
        String report = run(source(blocks(page, "java")));
        if (!blocks(page, "text").equals(List.of(report))) {
            WRONG.add("the report is\n" + report);
        }
        nameTests(page);
        if (calls < 30) {
            WRONG.add("a run of calls was looked for");
        }
        WRONG.forEach(each -> System.out.println("README.md: " + each));
        System.out.println(calls + " calls of README.md, " + WRONG.size() + " wrong");
        if (!WRONG.isEmpty()) {
            System.exit(1);
        }
    }

    private static List<String> blocks(String page, String language) {
        Matcher block = Pattern.compile("(?ms)^```" + language + "\n(.*?)^```$").matcher(page);
        return block.results().map(each -> each.group(1)).toList();
    }

    /** Blocks of methods stand in the class as they are; the lines of all others are the body of one method. */
    private static String source(List<String> blocks) {
        StringBuilder methods = new StringBuilder();
        StringBuilder body = new StringBuilder();
        for (String block : blocks) {
            if (block.startsWith("static ")) {
                methods.append(block);
            } else {
                block.lines().forEach(line -> body.append(statement(line)).append('\n'));
            }
        }
        return "public class ReadmeCode {\n" + methods + "public static String run() {\n" + body
                + "StringBuilder text = new StringBuilder();\n"
                + "for (int k = 0; k < x.writeReport(); k++) { text.append((char) x.reportByte(k)); }\n"
                + "return text.toString();\n}\n}\n";
    }

    private static String statement(String line) {
        if (!line.startsWith("x.")) {
            return line;
        }
        Matcher call = CALL.matcher(line);
        if (!call.matches()) {
            WRONG.add("a call without an answer: " + line);
            return line;
        }
        calls++;
        return "try { ReadmeRun.due(\"" + call.group(1) + "\", String.valueOf(" + call.group(1) + "), \"" + wanted(call)
                + "\"); } catch (RuntimeException e) { ReadmeRun.due(\"" + call.group(1)
                + "\", \"throws \" + e.getClass().getSimpleName(), \"" + wanted(call) + "\"); }";
    }

    private static String wanted(Matcher call) {
        return (call.group(2) == null ? "" : call.group(2)) + call.group(3);
    }

    /** The code of the page calls this behind each call. */
    public static void due(String call, String got, String want) {
        if (!got.equals(want)) {
            WRONG.add(call + " answered " + got + ", the page tells " + want);
        }
    }

    private static String run(String source) throws Exception {
        Path folder = Files.createTempDirectory("readme");
        try {
            Path file = Files.writeString(folder.resolve("ReadmeCode.java"), source);
            String classes = System.getProperty("java.class.path");
            int failed = ToolProvider.getSystemJavaCompiler().run(null, null, null, "-cp", classes, "-d", folder.toString(),
                    file.toString());
            if (failed != 0) {
                WRONG.add("the code of the page does not compile");
                return "";
            }
            try (URLClassLoader loader = new URLClassLoader(new URL[] {folder.toUri().toURL()})) {
                return (String) loader.loadClass("ReadmeCode").getMethod("run").invoke(null);
            }
        } finally {
            remove(folder);
        }
    }

    private static void remove(Path folder) throws IOException {
        try (Stream<Path> files = Files.walk(folder)) {
            files.sorted(Comparator.reverseOrder()).map(Path::toFile).forEach(File::delete);
        }
    }

    private static void nameTests(String page) throws IOException {
        String tests = page.substring(page.indexOf("## Tests"));
        try (Stream<Path> files = Files.list(Path.of("src/test/java"))) {
            files.map(file -> file.getFileName().toString().replace(".java", "")).sorted()
                    .filter(name -> !tests.contains("`" + name + "`"))
                    .forEach(name -> WRONG.add("the test " + name + " is not named"));
        }
        Matcher name = Pattern.compile("`(\\p{Upper}\\w+)`").matcher(tests);
        while (name.find()) {
            if (!Files.exists(Path.of("src/test/java", name.group(1) + ".java"))) {
                WRONG.add("there is no test " + name.group(1));
            }
        }
    }
}
