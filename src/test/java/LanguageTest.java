import java.io.IOException;
import java.nio.file.Files;
import java.nio.file.Path;
import java.util.List;
import java.util.regex.Matcher;
import java.util.regex.Pattern;

/** Rules of ../shared/LANGUAGE.md that can be seen in the class's text; run from the project's root. */
public final class LanguageTest {
    private static final Check CHECK = new Check("LanguageTest");

    /** Words that no rule leaves room for, or that this class can do without. */
    private static final String[] UNUSED = {
        "\\bpackage\\b", "\\bimport\\b", "->", "::", "@", "\\bfinally\\b", "\\bsynchronized\\b", "\\bassert\\b",
        "\\bString\\b", "Exact\\(", "\\bpublic static\\b", "\\bprotected\\b", "\\bdouble\\b", "\\bfloat\\b",
        "\\bwhile\\b", "\\bdo\\b", "static \\{", "\\bthis\\.equals\\b", "\\btoString\\b", "\\bhashCode\\b", "\\bsuper\\.equals\\b",
        "\\bjava\\.", "\\bThread\\b", "\\bvar\\b", "\\brecord\\b", "\\bObject\\b",
    };

    public static void main(String[] args) throws IOException {
        List<String> lines = Files.readAllLines(Path.of("src/main/java/ShipsThatMeet.java"));
        int opened = -1;
        for (int n = 0; n < lines.size(); n++) {
            String whole = lines.get(n);
            String line = whole.replaceAll("//.*", "").replaceAll("^\\s*/?\\*.*", "").replaceAll("\"[^\"]*\"", "\"\"");
            for (String word : UNUSED) {
                CHECK.holds("line " + (n + 1) + " without " + word + ": " + whole, !Pattern.compile(word).matcher(line).find());
            }
            library(n + 1, line);
            exceptions(n + 1, line);
            CHECK.holds("line " + (n + 1) + " has plain signs", whole.chars().allMatch(sign -> sign > 31 && sign < 127));
            if (line.matches("^( {4}| {8})[\\w].*\\(.*\\{$")) {
                opened = n;
            }
            if (line.matches("^( {4}| {8})\\}$") && opened >= 0) {
                CHECK.holds("the method of line " + (opened + 1) + " is short", n - opened < 60);
            }
            if (line.matches("^ {4,8}[\\w].*\\(.*\\{$")) {
                CHECK.holds("line " + (n + 1) + " has at most seven parameters", line.chars().filter(sign -> sign == ',').count() < 7);
            }
        }
        CHECK.end();
    }

    private static void library(int number, String line) {
        Matcher calls = Pattern.compile("\\b(Integer|Long|Math|System|Arrays|Character|Short|Byte)\\.(\\w+)").matcher(line);
        while (calls.find()) {
            String call = calls.group();
            boolean known = List.of("Integer.bitCount", "Math.max", "Math.min", "System.arraycopy").contains(call);
            CHECK.holds("line " + number + " calls the library by a known name: " + call, known);
        }
    }

    private static void exceptions(int number, String line) {
        if (line.contains("throw new")) {
            CHECK.holds("line " + number + " throws by rule 6", line.matches(".*throw new Illegal(State|Argument)Exception\\(\"\"\\);"));
        }
        if (line.contains("catch")) {
            CHECK.holds("line " + number + " catches by rule 6", line.matches(".*catch \\(IllegalStateException \\w+\\) \\{"));
        }
    }
}
