import java.io.IOException;
import java.net.URL;
import java.net.URLClassLoader;
import java.nio.file.Files;
import java.nio.file.Path;
import java.util.ArrayList;
import java.util.List;
import java.util.regex.Matcher;
import java.util.regex.Pattern;
import javax.tools.JavaCompiler;
import javax.tools.ToolProvider;

/** The example of README.md: it compiles as it stands, and its calls answer what README.md says. */
public final class ReadmeTest {
    private static final Due DUE = new Due("ReadmeTest");
    private static final String HOLDER = "ReadmeExample";
    private static final Pattern MAKES = Pattern.compile("TogetherOrders \\w+ = new TogetherOrders\\(\\);");
    /** A call, its result perhaps kept, with its answer and perhaps words behind a colon. */
    private static final Pattern ASKS =
        Pattern.compile("(?:(?:int|boolean) (\\w+) = )?(\\w+\\.\\w+\\(.*\\));\\s*// (throws \\w+|[\\w-]+)(?:: .*)?");

    private final List<String> calls = new ArrayList<>();
    private final List<String> wants = new ArrayList<>();
    private final StringBuilder body = new StringBuilder();

    public static void main(String[] args) throws IOException, ReflectiveOperationException {
        ReadmeTest test = new ReadmeTest();
        test.read(Files.readAllLines(Path.of("README.md")));
        DUE.is("the example asks something", true, !test.calls.isEmpty());
        if (!DUE.hasFault()) {
            test.compare(test.answers());
        }
        System.out.println(test.calls.size() + " calls");
        DUE.end();
    }

    private void read(List<String> lines) {
        boolean inExample = false;
        for (String line : lines) {
            if (line.startsWith("```")) {
                inExample = line.equals("```java");
            } else if (inExample) {
                readStatement(line.strip());
            }
        }
    }

    private void readStatement(String line) {
        Matcher asks = ASKS.matcher(line);
        if (asks.matches()) {
            calls.add(line);
            wants.add(asks.group(3).equals("NONE") ? Integer.toString(TogetherOrders.NONE) : asks.group(3));
            // What is kept must stay a variable of the example, so it can't be called within told.
            String kept = asks.group(1);
            body.append(kept == null ? "" : line + "\n");
            body.append("got.add(told(() -> " + (kept == null ? asks.group(2) : kept) + "));\n");
        } else if (MAKES.matcher(line).matches() || line.isEmpty() || line.startsWith("//")) {
            body.append(line).append("\n");
        } else {
            DUE.tell("no call with its answer: " + line);
        }
    }

    private String source() {
        return "import java.util.*;\n"
            + "public final class " + HOLDER + " implements java.util.function.Supplier<List<String>> {\n"
            + "interface Call { Object answer(); }\n"
            + "static String told(Call made) {\n"
            + "try { return String.valueOf(made.answer()); }\n"
            + "catch (RuntimeException e) { return \"throws \" + e.getClass().getSimpleName(); }\n"
            + "}\n"
            + "public List<String> get() {\n"
            + "List<String> got = new ArrayList<>();\n"
            + body
            + "return got;\n"
            + "}\n"
            + "}\n";
    }

    private List<String> answers() throws IOException, ReflectiveOperationException {
        Path directory = Files.createTempDirectory("readme");
        try {
            return answersIn(directory);
        } finally {
            try (var files = Files.list(directory)) {
                for (Path file : files.toList()) {
                    Files.delete(file);
                }
            }
            Files.delete(directory);
        }
    }

    private List<String> answersIn(Path directory) throws IOException, ReflectiveOperationException {
        Path file = Files.writeString(directory.resolve(HOLDER + ".java"), source());
        JavaCompiler javac = ToolProvider.getSystemJavaCompiler();
        String path = System.getProperty("java.class.path");
        if (javac.run(null, null, null, "--release", "17", "-cp", path, "-d", directory.toString(), file.toString()) != 0) {
            DUE.tell("the example does not compile");
            return List.of();
        }
        try (URLClassLoader loader = new URLClassLoader(new URL[] {directory.toUri().toURL()})) {
            Object example = loader.loadClass(HOLDER).getConstructor().newInstance();
            List<String> got = new ArrayList<>();
            for (Object answer : (List<?>) ((java.util.function.Supplier<?>) example).get()) {
                got.add((String) answer);
            }
            return got;
        }
    }

    private void compare(List<String> got) {
        DUE.is("calls that answered", calls.size(), got.size());
        for (int i = 0; i < calls.size() && i < got.size(); i++) {
            DUE.is(calls.get(i), wants.get(i), got.get(i));
        }
    }
}
