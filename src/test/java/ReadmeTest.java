import java.io.IOException;
import java.lang.reflect.Method;
import java.lang.reflect.Modifier;
import java.net.URL;
import java.net.URLClassLoader;
import java.nio.file.Files;
import java.nio.file.Path;
import java.util.ArrayList;
import java.util.List;
import java.util.Set;
import java.util.TreeSet;
import java.util.function.ObjLongConsumer;
import java.util.regex.Matcher;
import java.util.regex.Pattern;
import java.util.stream.Stream;
import javax.tools.JavaCompiler;
import javax.tools.ToolProvider;

/** The example of README.md is Java as it stands there, and each answer that it names is the one that the class gives. */
public final class ReadmeTest {
    private static final String TITLE = "README.md";
    private static final Pattern ANSWERED = Pattern.compile("(door\\.(\\w+)\\(.*\\));\\s*// (-?\\d+|[A-Z]+): .+");
    /** In the loop that types the text each answer is another. */
    private static final String TYPES = "door.type(letter);";

    private final List<String> answers = new ArrayList<>();
    private final List<String> calls = new ArrayList<>();
    private final Set<String> names = new TreeSet<>();
    private int asked;

    public static void main(String[] args) throws Exception {
        String readme = Files.readString(Path.of("README.md"));
        new ReadmeTest().example(blockOf("java", readme));
        saysHowToRunTests(readme);
        Script.end();
    }

    private static void holds(String what, boolean so) {
        Script.due(TITLE, what, so ? 1 : 0, 1);
    }

    private static String blockOf(String language, String readme) {
        Matcher m = Pattern.compile("(?s)```" + language + "\n(.*?)\n```").matcher(readme);
        boolean found = m.find();
        holds("a block of " + language, found);
        String block = found ? m.group(1) : "";
        holds("one block of " + language + " alone", language.equals("sh") || !m.find());
        return block;
    }

    private void example(String block) throws Exception {
        StringBuilder body = new StringBuilder();
        for (String line : block.split("\n")) {
            body.append(checked(line)).append('\n');
        }
        Path made = Files.createTempDirectory("readme");
        try {
            if (compiles(made, body.toString())) {
                run(made);
            }
        } finally {
            remove(made);
        }
        Script.due(TITLE, "how many answers are named and given", asked, answers.size());
        namesEachCall();
    }

    /** A call whose answer is named hands that answer on; what isn't such a call stands as it does in README.md. */
    private String checked(String line) {
        Matcher m = ANSWERED.matcher(line.strip());
        if (!m.matches()) {
            boolean callsTheDoor = line.contains("door.") && !line.strip().equals(TYPES);
            holds("an answer is named behind '" + line + "'", !callsTheDoor);
            return line;
        }
        calls.add(m.group(1));
        names.add(m.group(2));
        answers.add(m.group(3));
        return "said.accept(\"" + (answers.size() - 1) + "\", " + m.group(1) + ");";
    }

    private static boolean compiles(Path made, String body) throws IOException {
        Path source = made.resolve("ReadmeExample.java");
        Files.writeString(source, "public final class ReadmeExample {\n"
            + "public static void run(java.util.function.ObjLongConsumer<String> said) {\n" + body + "}\n}\n");
        JavaCompiler compiler = ToolProvider.getSystemJavaCompiler();
        boolean fine = compiler != null && compiler.run(null, null, null, "-cp", System.getProperty("java.class.path"),
            "-d", made.toString(), source.toString()) == 0;
        holds("the example compiles", fine);
        return fine;
    }

    private void run(Path made) throws Exception {
        try (URLClassLoader loader = new URLClassLoader(new URL[] {made.toUri().toURL()})) {
            Method run = loader.loadClass("ReadmeExample").getMethod("run", ObjLongConsumer.class);
            ObjLongConsumer<String> said = this::said;
            run.invoke(null, said);
        }
    }

    private void said(String which, long answer) {
        int n = Integer.parseInt(which);
        asked++;
        Script.due(TITLE, calls.get(n) + " (answer " + (n + 1) + ")", answer, Script.answer(answers.get(n)));
    }

    private static void remove(Path made) throws IOException {
        try (Stream<Path> files = Files.list(made)) {
            for (Path file : files.toList()) {
                Files.delete(file);
            }
        }
        Files.delete(made);
    }

    private void namesEachCall() {
        for (Method method : WingDoor.class.getDeclaredMethods()) {
            if (Modifier.isPublic(method.getModifiers())) {
                holds("an answer of " + method.getName() + "() is named", names.contains(method.getName()));
            }
        }
    }

    private static void saysHowToRunTests(String readme) throws IOException {
        holds("how the tests are run", blockOf("sh", readme).equals(".ci/run"));
        try (Stream<Path> files = Files.list(Path.of("src/test/java"))) {
            for (Path file : files.toList()) {
                String name = file.getFileName().toString().replace(".java", "");
                holds("'" + name + "' is named", readme.contains("`" + name + "`"));
            }
        }
    }
}
