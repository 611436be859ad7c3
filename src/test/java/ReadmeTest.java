import java.io.IOException;
import java.net.URL;
import java.net.URLClassLoader;
import java.nio.file.Files;
import java.nio.file.Path;
import java.util.ArrayList;
import java.util.Comparator;
import java.util.List;
import java.util.regex.Matcher;
import java.util.regex.Pattern;
import java.util.stream.Stream;
import javax.tools.ToolProvider;

/** The Java code of README.md, compiled and run: each call answers the number that stands behind it. */
public final class ReadmeTest {
    private static final Due DUE = new Due("ReadmeTest");
    private static final Pattern BLOCK = Pattern.compile("```java\n(.*?)```", Pattern.DOTALL);
    private static final Pattern ANSWERED = Pattern.compile("(?m)^(lamps\\.\\w+\\(.*?\\)); +// (-?\\d+)\\b.*$");

    private static String codeOf(String page) {
        StringBuilder code = new StringBuilder();
        Matcher block = BLOCK.matcher(page);
        while (block.find()) {
            code.append(block.group(1));
        }
        return code.toString();
    }

    /** Every answer is put into a row, so that the code runs to its end whatever is wrong. */
    private static String programOf(String code) {
        return "public final class Readme { public static void show(java.util.List<Long> answers) {\n"
                + ANSWERED.matcher(code).replaceAll("answers.add((long) $1);") + "\n} }\n";
    }

    private static List<Long> answersOf(String code) throws IOException, ReflectiveOperationException {
        Path out = Files.createTempDirectory("readme");
        List<Long> answers = new ArrayList<>();
        try {
            Path program = Files.writeString(out.resolve("Readme.java"), programOf(code));
            int done = ToolProvider.getSystemJavaCompiler().run(null, null, null, "-d", out.toString(),
                    program.toString(), "src/main/java/LampWays.java");
            DUE.is("the code compiles", done, 0);
            if (done == 0) {
                try (URLClassLoader loader = new URLClassLoader(new URL[] {out.toUri().toURL()})) {
                    loader.loadClass("Readme").getMethod("show", List.class).invoke(null, answers);
                }
            }
        } finally {
            try (Stream<Path> made = Files.walk(out)) {
                made.sorted(Comparator.reverseOrder()).forEach(path -> path.toFile().delete());
            }
        }
        return answers;
    }

    public static void main(String[] args) throws IOException, ReflectiveOperationException {
        String page = Files.readString(Path.of("README.md"));
        String code = codeOf(page);
        List<Long> answers = answersOf(code);
        Matcher line = ANSWERED.matcher(code);
        int t = 0;
        for (; line.find(); t++) {
            DUE.is(line.group(1), t < answers.size() ? answers.get(t) : Long.MAX_VALUE, Long.parseLong(line.group(2)));
        }
        DUE.is("as many answers as there are numbers", answers.size(), t);
        DUE.holds("many calls are shown", t >= 40);
        try (Stream<Path> tests = Files.list(Path.of("src/test/java"))) {
            tests.map(path -> path.getFileName().toString()).filter(name -> name.endsWith("Test.java")).forEach(name -> {
                String test = name.substring(0, name.length() - 5);
                boolean named = page.contains("`" + test + "`") || test.endsWith("EdgesTest")
                        || test.endsWith("RefusalsTest");
                DUE.holds("README.md tells of " + test, named);
            });
        }
        DUE.holds("README.md tells how to run the tests", page.contains(".ci/run"));
        DUE.end();
    }
}
