import java.io.IOException;
import java.nio.file.DirectoryStream;
import java.nio.file.Files;
import java.nio.file.Path;
import java.util.TreeSet;
import java.util.regex.Matcher;
import java.util.regex.Pattern;

/** README.md tells of every public member and every test, and its example's answers are those of the class. */
final class ReadmeTest extends Bench {
    private static final Path README = Path.of("README.md");
    private static final Path SOURCE = Path.of("src", "main", "java", "LayerVault.java");
    private static final Path TESTS = Path.of("src", "test", "java");
    private static final Path DOCUMENT = Path.of("..", "shared", "DOC.md");

    private static final Pattern METHOD = Pattern.compile("(?m)^    public ((?:int|boolean) (\\w+)\\(.*\\)) \\{$");
    private static final Pattern CONSTANT = Pattern.compile("(?m)^    public static final int (\\w+) = (-?\\d+);$");
    private static final Pattern CALL = Pattern.compile("(?m)^vault\\.((\\w+)\\(.*\\));\\s+// (-?\\w+):");
    private static final Pattern REFUSAL = Pattern.compile("\\b(BAD|NONE|FULL)\\b");
    private static final int METHODS = 18;

    private final String readme;
    private final String source;
    private final TreeSet<String> methods = new TreeSet<>();

    private ReadmeTest() throws IOException {
        readme = Files.readString(README);
        source = Files.readString(SOURCE);
    }

    public static void main(String[] args) throws IOException {
        ReadmeTest test = new ReadmeTest();
        test.fresh("README.md");
        test.everyMethodIsTold();
        test.everyConstantIsTold();
        test.answersOfTheExample();
        test.refusalsAreTheDocuments();
        test.everyTestIsNamed();
        test.due.end();
    }

    private void everyMethodIsTold() {
        Matcher method = METHOD.matcher(source);
        while (method.find()) {
            methods.add(method.group(2));
            due.is("tells of " + method.group(1), readme.contains("\n- `" + method.group(1) + "` "), true);
        }
        due.is("methods of the class", methods.size(), METHODS);
    }

    private void everyConstantIsTold() {
        Matcher constant = CONSTANT.matcher(source);
        int constants = 0;
        while (constant.find()) {
            constants++;
            String words = "\n- `" + constant.group(1) + "` is " + constant.group(2) + ": ";
            due.is("tells of " + constant.group(1), readme.contains(words), true);
        }
        due.is("constants of the class", constants, 3);
    }

    private void answersOfTheExample() {
        TreeSet<String> called = new TreeSet<>();
        Matcher call = CALL.matcher(readme);
        while (call.find()) {
            called.add(call.group(2));
            is(call.group(1), answer(call.group(3)));
        }
        due.is("methods that the example calls", called.toString(), methods.toString());
    }

    private static long answer(String word) {
        return switch (word) {
            case "true" -> 1;
            case "false" -> 0;
            case "BAD" -> BAD;
            case "NONE" -> NONE;
            case "FULL" -> FULL;
            default -> Integer.parseInt(word);
        };
    }

    private void refusalsAreTheDocuments() throws IOException {
        if (!Files.exists(DOCUMENT)) {
            System.out.println("there is no " + DOCUMENT + " to check the refusals by");
            return;
        }
        String document = Files.readString(DOCUMENT);
        for (String name : methods) {
            String told = part(readme, "(?m)^- `(?:int|boolean) " + name + "\\(", "(?m)^(?:- |#|$)");
            String promised = part(document, "(?m)^## Promise \\d+: " + name + "$", "(?m)^## ");
            due.is("refusals of " + name, refusals(told), refusals(promised));
        }
    }

    /** From the first place that looks like the beginning to the next one that looks like the end. */
    private static String part(String text, String beginning, String end) {
        String[] parts = text.split(beginning, 2);
        return parts.length < 2 ? "" : parts[1].split(end, 2)[0];
    }

    private static String refusals(String text) {
        TreeSet<String> found = new TreeSet<>();
        Matcher refusal = REFUSAL.matcher(text);
        while (refusal.find()) {
            found.add(refusal.group(1));
        }
        return found.toString();
    }

    private void everyTestIsNamed() throws IOException {
        try (DirectoryStream<Path> files = Files.newDirectoryStream(TESTS, "*.java")) {
            for (Path file : files) {
                String name = file.getFileName().toString().replace(".java", "");
                boolean named = readme.contains("`" + name + "`") || readme.contains("`@" + name + "`");
                due.is("tells of " + name, named, true);
            }
        }
    }
}
