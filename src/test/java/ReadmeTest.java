import java.io.IOException;
import java.io.PrintWriter;
import java.io.StringWriter;
import java.lang.reflect.Method;
import java.lang.reflect.Modifier;
import java.nio.file.Files;
import java.nio.file.Path;
import java.util.ArrayList;
import java.util.List;
import java.util.regex.Matcher;
import java.util.regex.Pattern;
import java.util.spi.ToolProvider;

/**
 * README.md's example is compiled and run as it stands there, and each "// answers X" in it is held against what
 * the call answers; each call of the class must be named there. It is run from the project's folder, as .ci/run does.
 */
public final class ReadmeTest {

    private static final Pattern TOLD = Pattern.compile("\\w+ (\\w+) = (.*);\\s*// answers (-?[0-9]+|true|false)\\b.*");
    private static final int LEAST_TOLD = 10;

    private static int wrong = 0;

    private static void bad(String what) {
        wrong++;
        System.out.println("README.md: " + what);
    }

    private static List<String> example(List<String> readme) {
        List<String> lines = new ArrayList<>();
        boolean isInside = false;
        for (String line : readme) {
            if (line.equals("```java")) {
                isInside = true;
            } else if (line.equals("```")) {
                isInside = false;
            } else if (isInside) {
                lines.add(line);
            }
        }
        return lines;
    }

    private static String program(List<String> example) {
        StringBuilder text = new StringBuilder("public final class ReadmeExample {\n"
            + "    static int wrong = 0;\n"
            + "    static void due(String call, Object got, String want) {\n"
            + "        if (!got.toString().equals(want)) {\n"
            + "            wrong++;\n"
            + "            System.out.println(\"README.md: \" + call + \" answered \" + got);\n"
            + "        }\n"
            + "    }\n"
            + "    public static void main(String[] args) {\n");
        int told = 0;
        for (String line : example) {
            text.append(line).append('\n');
            Matcher matcher = TOLD.matcher(line);
            if (matcher.matches()) {
                told++;
                text.append("due(\"").append(matcher.group(2)).append("\", ").append(matcher.group(1)).append(", \"")
                    .append(matcher.group(3)).append("\");\n");
            } else if (line.contains("//")) {
                bad("what is due in this line is not told: " + line);
            }
        }
        if (told < LEAST_TOLD) {
            bad("its example tells " + told + " answers only");
        }
        return text.append("        System.exit(wrong == 0 ? 0 : 1);\n    }\n}\n").toString();
    }

    private static void runExample(String program) throws IOException, InterruptedException {
        Path folder = Files.createTempDirectory("readme");
        Path source = folder.resolve("ReadmeExample.java");
        String classes = System.getProperty("java.class.path");
        try {
            Files.writeString(source, program);
            StringWriter said = new StringWriter();
            PrintWriter out = new PrintWriter(said);
            int status = ToolProvider.findFirst("javac").orElseThrow()
                .run(out, out, "-cp", classes, "-d", folder.toString(), source.toString());
            if (status != 0) {
                bad("its example does not compile\n" + said);
                return;
            }
            String java = Path.of(System.getProperty("java.home"), "bin", "java").toString();
            String both = classes + System.getProperty("path.separator") + folder;
            if (new ProcessBuilder(java, "-cp", both, "ReadmeExample").inheritIO().start().waitFor() != 0) {
                bad("its example does not answer as it tells");
            }
        } finally {
            Files.deleteIfExists(folder.resolve("ReadmeExample.class"));
            Files.deleteIfExists(source);
            Files.deleteIfExists(folder);
        }
    }

    private static void needAllNamed(String readme) {
        for (Method method : Platterhouse.class.getDeclaredMethods()) {
            if (Modifier.isPublic(method.getModifiers()) && !readme.contains("`" + method.getName() + "`")) {
                bad("it does not name " + method.getName());
            }
        }
    }

    private static void needTestsTold(String readme) throws IOException {
        if (!readme.contains("\n    .ci/run\n")) {
            bad("it does not say how the tests are run");
        }
        try (var tests = Files.newDirectoryStream(Path.of("src/test/java"), "*.java")) {
            for (Path test : tests) {
                String name = test.getFileName().toString().replace(".java", "");
                if (!readme.contains("`" + name + "`")) {
                    bad("it does not name the test " + name);
                }
            }
        }
    }

    public static void main(String[] args) throws IOException, InterruptedException {
        Path file = Path.of("README.md");
        runExample(program(example(Files.readAllLines(file))));
        needAllNamed(Files.readString(file));
        needTestsTold(Files.readString(file));
        if (wrong != 0) {
            System.exit(1);
        }
        System.out.println("README.md is as due");
    }
}
