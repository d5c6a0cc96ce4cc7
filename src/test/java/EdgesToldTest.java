import java.io.IOException;
import java.nio.file.Files;
import java.nio.file.Path;
import java.util.Arrays;
import java.util.TreeMap;
import java.util.regex.Matcher;
import java.util.regex.Pattern;

/**
 * The sentences that the tests of boundary cases are named by, held against ../shared/DOC.md: each
 * stands there, and none of the document's sentences is without a test. Run from the project's root.
 */
public final class EdgesToldTest {
    private static final Check CHECK = new Check("EdgesToldTest");
    private static final int PROMISES = 33;
    /** For the words that all promises use. */
    private static final int TERMS = 0;

    public static void main(String[] args) throws IOException {
        Edges edges = new Edges("EdgesToldTest");
        TermsEdgesTest.list(edges);
        TextsEdgesTest.list(edges);
        RowsEdgesTest.list(edges);
        FleetsEdgesTest.list(edges);
        MeetingsEdgesTest.list(edges);
        CompanyEdgesTest.list(edges);
        LettersEdgesTest.list(edges);
        ImageEdgesTest.list(edges);
        ShelvesEdgesTest.list(edges);
        RefusalsEdgesTest.list(edges);
        FullEdgesTest.list(edges);
        TraceEdgesTest.list(edges);
        compare(edges, sections(Files.readString(Path.of("../shared/DOC.md"))));
        CHECK.end();
    }

    private static void compare(Edges edges, TreeMap<Integer, String> sections) {
        CHECK.due("sections", sections.size(), 1 + PROMISES);
        TreeMap<Integer, char[]> left = new TreeMap<>();
        sections.forEach((number, text) -> left.put(number, text.toCharArray()));
        for (Edges.Edge edge : edges.all) {
            int number = edge.own ? edge.promise : TERMS;
            String text = sections.get(number);
            CHECK.holds(edge.name() + ": the document says so", text.contains(edge.sentence));
            for (int at = text.indexOf(edge.sentence); at >= 0; at = text.indexOf(edge.sentence, at + 1)) {
                Arrays.fill(left.get(number), at, at + edge.sentence.length(), ' ');
            }
        }
        left.forEach((number, text) -> {
            String untested = new String(text).replaceAll("[^A-Za-z0-9]+", " ").trim();
            CHECK.holds("section " + number + " is without a test for: " + untested, untested.isEmpty());
        });
    }

    /** What the document promises, by the promise's number; headings, signatures and what is free are left out. */
    private static TreeMap<Integer, String> sections(String document) {
        TreeMap<Integer, String> sections = new TreeMap<>();
        Matcher limit = Pattern.compile("An object is used for at most 512 calls after it has been made").matcher(document);
        CHECK.holds("the limit of calls is told", limit.find());
        String terms = document.substring(document.indexOf("## Terms") + "## Terms".length(), document.indexOf("## Promise 1:"));
        String plain = terms.replaceAll("Ahead of the calls [^\\n]*", "").replaceAll("====|```text|```", "");
        // these two words only lead over from one part to the next
        plain = plain.replaceAll("\\n 2 A FLEET", "\nA FLEET").replaceAll("\\n 3 In mind", "\nIn mind").replace("Said once more:", "");
        sections.put(TERMS, limit.group() + "\n" + plain);
        Matcher promise = Pattern.compile("## Promise (\\d+):[^\\n]*\\n\\s*`[^`]*`: ([^#]*)").matcher(document);
        while (promise.find()) {
            sections.put(Integer.parseInt(promise.group(1)), promise.group(2));
        }
        return sections;
    }
}
