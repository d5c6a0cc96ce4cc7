import java.io.IOException;
import java.lang.reflect.Constructor;
import java.lang.reflect.Field;
import java.lang.reflect.Method;
import java.lang.reflect.Modifier;
import java.nio.file.Files;
import java.nio.file.Path;
import java.util.ArrayList;
import java.util.Arrays;
import java.util.HashSet;
import java.util.List;
import java.util.Set;
import java.util.TreeSet;
import java.util.regex.Matcher;
import java.util.regex.Pattern;

/**
 * The public face: just the members that ../shared/DOC.md tells, with its parameters, in its order and under its
 * headings, and no others that can be seen from outside. Run from the project's root.
 */
public final class FaceTest {
    private static final Check CHECK = new Check("FaceTest");
    private static final int METHODS = 32;

    public static void main(String[] args) throws IOException {
        String document = Files.readString(Path.of("../shared/DOC.md"));
        String text = Files.readString(Path.of("src/main/java/ShipsThatMeet.java"));
        List<String> told = declarations(part(document, "```java\n", "```"));
        CHECK.due("declarations that the document tells: the class, its constructor, its methods", told.size(), 2 + METHODS);
        List<String> written = declarations(text);
        for (int i = 0; i < Math.max(told.size(), written.size()); i++) {
            String due = i < told.size() ? told.get(i) : "nothing";
            String got = i < written.size() ? written.get(i) : "nothing";
            CHECK.holds("the document tells \"" + due + "\", the class has \"" + got + "\"", due.equals(got));
        }
        headings(document, text);
        promises(document, told);
        members(told);
        CHECK.end();
    }

    private static String part(String text, String from, String to) {
        int begin = text.indexOf(from);
        int end = begin < 0 ? -1 : text.indexOf(to, begin + from.length());
        CHECK.holds("there is a part from " + from.trim() + " to " + to.trim(), end >= 0);
        return end < 0 ? "" : text.substring(begin + from.length(), end);
    }

    /** All that is declared public, without bodies. */
    private static List<String> declarations(String text) {
        List<String> all = new ArrayList<>();
        Matcher line = Pattern.compile("(?m)^ *(public [^;{]*[^;{ ])(;| \\{)$").matcher(text);
        while (line.find()) {
            all.add(line.group(1));
        }
        return all;
    }

    private static List<String> found(String pattern, String text) {
        List<String> all = new ArrayList<>();
        Matcher matcher = Pattern.compile(pattern).matcher(text);
        while (matcher.find()) {
            all.add(matcher.group(1));
        }
        return all;
    }

    /** Ahead of the calls a, b the interface says: ---- c. */
    private static void headings(String document, String text) {
        Matcher sentence = Pattern.compile("Ahead of the calls ([^\\n]*) the interface says: (---- [^\\n]*)\\.").matcher(document);
        int calls = 0;
        while (sentence.find()) {
            List<String> told = found("`(\\w+)`", sentence.group(1));
            String below = part(text, "// " + sentence.group(2) + "\n", "// ----");
            List<String> written = found("(?m)^    public \\w+ (\\w+)\\(", below);
            CHECK.holds(sentence.group(2) + " stands ahead of " + told + ": " + written, told.equals(written));
            calls += told.size();
        }
        CHECK.due("calls under a heading", calls, METHODS);
    }

    /** Each promise's own line tells the same as the face. */
    private static void promises(String document, List<String> told) {
        List<String> signatures = found("## Promise \\d+: [^\\n]*\\n\\n`([^`]*)`:", document);
        CHECK.due("promises", signatures.size(), 1 + METHODS);
        for (int i = 0; i < signatures.size(); i++) {
            CHECK.holds("promise " + (i + 1) + " is for " + signatures.get(i), told.get(i + 1).equals("public " + signatures.get(i)));
        }
    }

    /** What the machine itself sees: a declaration may hide from a look at the text. */
    private static void members(List<String> told) {
        Class<?> type = ShipsThatMeet.class;
        CHECK.due("public and final, and no more", type.getModifiers(), Modifier.PUBLIC | Modifier.FINAL);
        CHECK.holds("it extends nothing", type.getSuperclass() == Object.class && type.getInterfaces().length == 0);
        Set<String> seen = new TreeSet<>();
        Set<String> names = new HashSet<>();
        for (Method method : type.getDeclaredMethods()) {
            if (!Modifier.isPrivate(method.getModifiers())) {
                seen.add(described(method));
                names.add(method.getName());
                CHECK.due(method + " is public and no more", method.getModifiers(), Modifier.PUBLIC);
            }
        }
        Set<String> due = new TreeSet<>();
        for (String declaration : told.subList(2, told.size())) {
            due.add(declaration.replace("public ", "").replaceAll("(int|long) \\w+(,|\\))", "$1$2"));
        }
        CHECK.holds("methods " + seen + " are " + due, seen.equals(due));
        for (Method method : type.getDeclaredMethods()) {
            if (Modifier.isPrivate(method.getModifiers())) {
                CHECK.holds("no private method is called " + method.getName(), !names.contains(method.getName()));
            }
        }
        fields(type);
        constructors(type);
        inside(type, names);
    }

    private static void fields(Class<?> type) {
        for (Field field : type.getDeclaredFields()) {
            int modifiers = field.getModifiers();
            CHECK.holds(field + " is private", Modifier.isPrivate(modifiers));
            CHECK.holds(field + " is no changing static", !Modifier.isStatic(modifiers) || Modifier.isFinal(modifiers));
        }
    }

    private static void constructors(Class<?> type) {
        Constructor<?>[] constructors = type.getDeclaredConstructors();
        CHECK.due("constructors", constructors.length, 1);
        CHECK.due("the constructor's parameters", constructors[0].getParameterCount(), 0);
        CHECK.due("the constructor is public", constructors[0].getModifiers(), Modifier.PUBLIC);
        CHECK.due("the constructor tells of no exceptions", constructors[0].getExceptionTypes().length, 0);
    }

    private static void inside(Class<?> type, Set<String> names) {
        for (Class<?> inner : type.getDeclaredClasses()) {
            int modifiers = inner.getModifiers();
            CHECK.holds(inner + " is static", Modifier.isStatic(modifiers));
            CHECK.holds(inner + " is hidden", !Modifier.isPublic(modifiers) && !Modifier.isProtected(modifiers));
            for (Field field : inner.getDeclaredFields()) {
                CHECK.holds(field + " is no static", !Modifier.isStatic(field.getModifiers()));
            }
            for (Method method : inner.getDeclaredMethods()) {
                CHECK.holds(method + " bears no public name", !names.contains(method.getName()));
            }
        }
    }

    private static String described(Method method) {
        List<String> parameters = new ArrayList<>();
        for (Class<?> parameter : method.getParameterTypes()) {
            parameters.add(parameter.getName());
        }
        List<String> exceptions = new ArrayList<>();
        Arrays.stream(method.getExceptionTypes()).forEach(thrown -> exceptions.add(thrown.getSimpleName()));
        return method.getReturnType().getName() + " " + method.getName() + "(" + String.join(", ", parameters) + ")"
            + (exceptions.isEmpty() ? "" : " throws " + String.join(", ", exceptions));
    }
}
