import java.io.IOException;
import java.lang.reflect.Method;
import java.lang.reflect.Modifier;
import java.net.URL;
import java.net.URLClassLoader;
import java.nio.file.Files;
import java.nio.file.Path;
import java.util.regex.MatchResult;
import java.util.regex.Matcher;
import java.util.regex.Pattern;
import java.util.stream.Stream;
import javax.tools.ToolProvider;

/** README.md's examples, compiled and run as they stand there: each answer is as the comment behind the call tells. */
public final class ReadmeTest {
    private static final Path README = Path.of("README.md");
    private static final Pattern BLOCK = Pattern.compile("(?s)```java\n(.*?)```");
    private static final Pattern ANSWERED =
            Pattern.compile("(?m)^(?:int (\\w+) = )?(copse\\.\\w+\\(.*\\));\\s+// (-?\\d+).*$");

    private ReadmeTest() {
    }

    public static void main(String[] args) throws Exception {
        String readme = Files.readString(README);
        int wrong = run(programOf(readme)) + untold(readme);
        System.out.println(wrong + " wrong in README.md");
        if (wrong > 0) {
            System.exit(1);
        }
    }

    private static int untold(String readme) {
        int untold = 0;
        for (Method call : DarkCommittee.class.getDeclaredMethods()) {
            if (Modifier.isPublic(call.getModifiers()) && !readme.contains("`" + call.getName() + "`")) {
                untold++;
                System.out.println("README.md does not tell of " + call.getName());
            }
        }
        return untold;
    }

    /** Blocks that begin with "static" are methods, all others are one run behind the other. */
    private static String programOf(String readme) {
        StringBuilder methods = new StringBuilder();
        StringBuilder runs = new StringBuilder();
        Matcher block = BLOCK.matcher(readme);
        while (block.find()) {
            if (block.group(1).startsWith("static ")) {
                methods.append(block.group(1));
            } else {
                runs.append(ANSWERED.matcher(block.group(1)).replaceAll(ReadmeTest::asked));
            }
        }
        return "public class ReadmeRun {\n"
                + "static int wrong = 0; static int asked = 0;\n"
                + "static int due(String call, int got, int want) {\n"
                + "asked++; if (got != want) { wrong++; System.out.println(call + \" answered \" + got + \", README.md"
                + " tells \" + want); } return got; }\n"
                + methods
                + "public static int run() {\n" + runs
                + "System.out.println(asked + \" answers\"); return asked == 0 ? 1 : wrong; }\n}\n";
    }

    private static String asked(MatchResult line) {
        String named = line.group(1) == null ? "" : "int " + line.group(1) + " = ";
        String call = line.group(2);
        return Matcher.quoteReplacement(named + "due(\"" + call + "\", " + call + ", " + line.group(3) + ");");
    }

    private static int run(String program) throws Exception {
        Path place = Files.createTempDirectory("readme");
        try {
            Path source = place.resolve("ReadmeRun.java");
            Files.writeString(source, program);
            int failed = ToolProvider.getSystemJavaCompiler().run(null, null, null, "-cp",
                    System.getProperty("java.class.path"), "-d", place.toString(), source.toString());
            if (failed != 0) {
                return 1;
            }
            try (URLClassLoader loader = new URLClassLoader(new URL[] {place.toUri().toURL()})) {
                return (int) loader.loadClass("ReadmeRun").getMethod("run").invoke(null);
            }
        } finally {
            remove(place);
        }
    }

    private static void remove(Path place) throws IOException {
        try (Stream<Path> files = Files.list(place)) {
            for (Path file : files.toList()) {
                Files.delete(file);
            }
        }
        Files.delete(place);
    }
}
