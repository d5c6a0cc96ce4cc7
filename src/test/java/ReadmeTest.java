import java.io.File;
import java.io.IOException;
import java.lang.reflect.InvocationTargetException;
import java.lang.reflect.Method;
import java.lang.reflect.Modifier;
import java.net.URL;
import java.net.URLClassLoader;
import java.nio.file.Files;
import java.nio.file.Path;
import java.util.ArrayList;
import java.util.List;
import java.util.Set;
import java.util.TreeSet;
import java.util.concurrent.TimeUnit;
import java.util.regex.Matcher;
import java.util.regex.Pattern;
import java.util.stream.Stream;
import javax.tools.ToolProvider;

/**
 * README.md held to its word: its Java compiles as it stands there and answers what stands behind "// ->", each
 * call of the face is shown, its commands run, and its table has all tests. Run from the project's root.
 */
public final class ReadmeTest {
    private static final Check CHECK = new Check("ReadmeTest");
    private static final Pattern ANSWER = Pattern.compile("(?m)^( *)(sea\\.(\\w+)\\(.*\\)); +// -> (-?\\d+|\\w+Exception)\\b.*$");

    public static void main(String[] args) throws IOException, ReflectiveOperationException, InterruptedException {
        String page = Files.readString(Path.of("README.md"));
        Path folder = Files.createTempDirectory("readme");
        try {
            use(page, folder);
            commands(page, folder);
        } finally {
            remove(folder);
        }
        table(page);
        CHECK.end();
    }

    /** All blocks of a language, one below the other. */
    private static String blocks(String page, String language) {
        StringBuilder all = new StringBuilder();
        Matcher block = Pattern.compile("(?s)```" + language + "\\n(.*?)```").matcher(page);
        while (block.find()) {
            all.append(block.group(1));
        }
        CHECK.holds("README.md shows some " + language, all.length() > 0);
        return all.toString();
    }

    private static void use(String page, Path folder) throws IOException, ReflectiveOperationException {
        String shown = blocks(page, "java");
        CHECK.holds("what is shown compiles as it stands there", compiles(folder, "ReadmeAsShown", shown, ""));
        boolean asked = compiles(folder, "ReadmeAsked", asked(shown), HELP);
        CHECK.holds("what is shown compiles with its answers asked for", asked);
        if (asked) {
            ask(folder);
        }
        eachCallIsShown(shown);
    }

    private static final String HELP = ""
        + "  interface Call { long of(); }\n"
        + "  static void due(String call, String want, Call got) {\n"
        + "    String answer;\n"
        + "    try { answer = Long.toString(got.of()); }\n"
        + "    catch (RuntimeException thrown) { answer = thrown.getClass().getSimpleName(); }\n"
        + "    told.add(new String[] {call, want, answer});\n"
        + "  }\n"
        + "  static final java.util.List<String[]> told = new java.util.ArrayList<>();\n"
        + "  public static java.util.List<String[]> told() { return told; }\n";

    /** Each call whose answer stands behind it is asked for it; all else stays as it is shown. */
    private static String asked(String shown) {
        return ANSWER.matcher(shown).replaceAll(line ->
            Matcher.quoteReplacement(line.group(1) + "due(\"" + line.group(2).replace("\"", "\\\"") + "\", \"" + line.group(4)
                + "\", () -> " + line.group(2) + ");"));
    }

    private static boolean compiles(Path folder, String name, String body, String help) throws IOException {
        Path file = folder.resolve(name + ".java");
        Files.writeString(file, "public final class " + name + " {\n" + help
            + "  public static void main(String[] args) {\n" + body + "  }\n}\n");
        int exit = ToolProvider.getSystemJavaCompiler().run(null, System.out, System.out, "-d", folder.toString(),
            "-cp", System.getProperty("java.class.path"), "-proc:none", file.toString());
        return exit == 0;
    }

    private static void ask(Path folder) throws IOException, ReflectiveOperationException {
        try (URLClassLoader loader = new URLClassLoader(new URL[] {folder.toUri().toURL()}, ReadmeTest.class.getClassLoader())) {
            Class<?> type = loader.loadClass("ReadmeAsked");
            try {
                type.getMethod("main", String[].class).invoke(null, (Object) new String[0]);
            } catch (InvocationTargetException thrown) {
                CHECK.holds("what is shown runs to its end: " + thrown.getCause(), false);
            }
            for (Object one : (List<?>) type.getMethod("told").invoke(null)) {
                String[] told = (String[]) one;
                CHECK.holds(told[0] + " answers " + told[2] + ", README.md says " + told[1], told[1].equals(told[2]));
            }
        }
    }

    private static void eachCallIsShown(String shown) {
        Set<String> answered = new TreeSet<>();
        int answers = 0;
        Matcher line = ANSWER.matcher(shown);
        while (line.find()) {
            answered.add(line.group(3));
            answers++;
        }
        CHECK.due("each // -> is one that is asked for", answers, shown.split("// ->", -1).length - 1);
        for (Method method : ShipsThatMeet.class.getDeclaredMethods()) {
            if (Modifier.isPublic(method.getModifiers())) {
                CHECK.holds(method.getName() + " is shown with an answer", answered.contains(method.getName()));
            }
        }
    }

    private static void commands(String page, Path folder) throws IOException, InterruptedException {
        File printed = folder.resolve("printed").toFile();
        ProcessBuilder shell = new ProcessBuilder("bash", "-e", "-c", blocks(page, "sh"));
        // what mktemp makes is to be gone with the folder
        shell.environment().put("TMPDIR", folder.toString());
        Process run = shell.redirectErrorStream(true).redirectOutput(printed).start();
        boolean ended = run.waitFor(5, TimeUnit.MINUTES);
        CHECK.holds("the commands end", ended);
        run.destroyForcibly();
        String told = Files.readString(printed.toPath());
        CHECK.holds("the commands run one test: " + told, ended && run.exitValue() == 0 && told.contains("answers as due, 0 not"));
    }

    private static void table(String page) throws IOException {
        List<String> told = new ArrayList<>();
        Matcher line = Pattern.compile("(?m)^\\| (\\w+Test) \\|").matcher(page);
        while (line.find()) {
            told.add(line.group(1));
        }
        Set<String> there = new TreeSet<>();
        try (Stream<Path> files = Files.list(Path.of("src/test/java"))) {
            files.map(file -> file.getFileName().toString()).filter(name -> name.endsWith("Test.java"))
                .forEach(name -> there.add(name.replace(".java", "")));
        }
        CHECK.due("no test is told twice", new TreeSet<>(told).size(), told.size());
        CHECK.holds("the table has " + told + ", there are " + there, there.equals(new TreeSet<>(told)));
    }

    private static void remove(Path folder) throws IOException {
        try (Stream<Path> all = Files.walk(folder)) {
            all.sorted((one, other) -> other.compareTo(one)).forEach(path -> path.toFile().delete());
        }
    }
}
