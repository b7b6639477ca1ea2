import java.io.IOException;
import java.lang.reflect.Method;
import java.nio.file.Files;
import java.nio.file.Path;
import java.util.ArrayList;
import java.util.List;
import java.util.TreeMap;
import java.util.TreeSet;
import java.util.regex.Matcher;
import java.util.regex.Pattern;

/**
 * The words that the tests of single sentences quote stand in the document, under their promise or in what holds for
 * all of them, no sentence there is without a test, and the face is the one that FaceTest asks for. Where the document
 * isn't found, there is nothing to check.
 */
final class SentencesTest {
    private static final Path DOCUMENT = Path.of("..", "shared", "DOC.md");
    private static final int PROMISES = 19;
    private static final Class<?>[] TESTS = {
        WriteEdgeTest.class, TableEdgeTest.class, LogEdgeTest.class, ReadEdgeTest.class,
    };
    // The first sentence has a test of its own, HistoryTest, and so have the constants, FaceTest.
    private static final String[] TESTED_ELSEWHERE = {
        "A store of keys whose values lie in a log apart",
        "The constants: `BAD = -1`: A number that can't be.", "`NONE = -2`: Nothing is there.", "`FULL = -3`: No room.",
    };
    private static final Pattern MEMBER = Pattern.compile("public (?!final class)[^;]*;");

    private final Due due = new Due();
    private final TreeMap<String, String> sections = new TreeMap<>();
    private final List<String> quotes = new ArrayList<>(List.of(TESTED_ELSEWHERE));

    public static void main(String[] args) throws IOException {
        if (!Files.exists(DOCUMENT)) {
            System.out.println("there is no " + DOCUMENT + " to check the quotes by");
            return;
        }
        SentencesTest test = new SentencesTest();
        test.read();
        test.quotesStandInTheDocument();
        test.everySentenceIsQuoted();
        test.faceIsTheDocuments();
        test.due.end();
    }

    private void read() throws IOException {
        for (String part : Files.readString(DOCUMENT).split("(?m)^## ")) {
            int end = part.indexOf('\n');
            String title = part.substring(0, end).replaceFirst(":.*", "");
            sections.put(title, part.substring(end).replaceAll("\\s+", " ").trim());
        }
    }

    private void quotesStandInTheDocument() {
        boolean[] tested = new boolean[PROMISES + 1];
        for (Class<?> owner : TESTS) {
            for (Method test : Bench.sentenceTests(owner)) {
                Says says = test.getAnnotation(Says.class);
                String ofAll = sections.get("What it is") + sections.get("Terms");
                String place = sections.get("Promise " + says.promise()) + ofAll;
                boolean said = place.contains(says.words());
                due.is(test.getName() + ": the document says \"" + says.words() + "\"", said, true);
                tested[says.promise()] = true;
                quotes.add(says.words());
            }
        }
        for (int promise = 1; promise <= PROMISES; promise++) {
            due.is("promise " + promise + " has a test", tested[promise], true);
        }
    }

    private void everySentenceIsQuoted() {
        for (String title : sections.keySet()) {
            if (title.equals("What it is") || title.equals("Terms") || title.startsWith("Promise ")) {
                // A sentence ends with a full stop before a capital letter, a code or a bracket: "0 .. 31" has none.
                for (String sentence : sections.get(title).split("(?<=[\\w)`]\\.\\)?) (?=[A-Z`(])")) {
                    due.is(title + ": \"" + sentence + "\" is quoted by a test", isQuoted(sentence), true);
                }
            }
        }
    }

    private void faceIsTheDocuments() {
        TreeSet<String> shown = new TreeSet<>();
        Matcher member = MEMBER.matcher(sections.get("The public face"));
        while (member.find()) {
            // FaceTest tells a member as reflection does: without a constant's value and without parameters' names.
            String bare = member.group().replaceAll(" = -?\\d+|;", "");
            shown.add(bare.replaceAll("int \\w+(?=[,)])", "int").replace(", ", ","));
        }
        due.is("the public face", shown.toString(), new TreeSet<>(List.of(FaceTest.FACE)).toString());
    }

    private boolean isQuoted(String sentence) {
        for (String quote : quotes) {
            if (sentence.contains(quote) || quote.contains(sentence)) {
                return true;
            }
        }
        return false;
    }
}
