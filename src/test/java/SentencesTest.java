import java.io.IOException;
import java.nio.file.DirectoryStream;
import java.nio.file.Files;
import java.nio.file.Path;
import java.util.ArrayList;
import java.util.List;
import java.util.regex.Matcher;
import java.util.regex.Pattern;

/**
 * That the document has no sentence without a test: each stands behind a said(..) of some test,
 * which has checks behind it. Run from the project's directory, as .ci/run does.
 */
public final class SentencesTest {
    private static final Path DOCUMENT = Path.of("../shared/DOC.md");
    private static final Path TESTS = Path.of("src/test/java");
    private static final String TEXT = "\"(?:[^\"\\\\]|\\\\.)*\"";
    private static final Pattern SAID =
            Pattern.compile("said\\(\\s*(" + TEXT + "(?:\\s*\\+\\s*" + TEXT + ")*)\\s*\\)");

    // What says nothing of a call's answers, changes or exceptions.
    private static final String[] FREE = {
        "Footprints made by families of rules from spans of bodies: pads by exact sums for three "
            + "densities, courtyards, masks, paste in parts, vias in a thermal pad, names, texts; "
            + "hand-made ones compared.",
        "what later calls answer is free.",
        "All lengths are whole nanometres.",
        "How the state is held inside the object is free, as are the speed of each call, the text "
            + "of toString and the behaviour of equals and hashCode.",
        "Use of one object from several threads at once is not promised to be safe.",
        "and nothing about an object after its 512th call."};

    public static void main(String[] args) throws IOException {
        if (!Files.exists(DOCUMENT)) {
            System.out.println("nothing is compared: there is no " + DOCUMENT);
            return;
        }
        String document = plain(Files.readString(DOCUMENT));
        boolean[] isQuoted = new boolean[document.length()];
        List<String> quotes = quotes();
        quotes.addAll(List.of(FREE));
        int wrong = 0;
        for (String quote : quotes) {
            if (!mark(document, quote, isQuoted)) {
                wrong++;
                System.out.println("the document does not say: " + quote);
            }
        }
        for (String rest : rests(document, isQuoted)) {
            wrong++;
            System.out.println("no test says: " + rest);
        }
        System.out.println(wrong == 0 ? "each sentence has its tests" : wrong + " faults");
        if (wrong != 0) {
            System.exit(1);
        }
    }

    /** Without headings, and without the face, which FaceTest has written out. */
    private static String plain(String document) {
        return document.replaceAll("(?s)```java.*?```", " ")
                .replaceAll("(?m)^#.*$", " ")
                .replaceAll("```(text)?", " ")
                .replaceAll("`[^`]*\\([^`]*`: ", " ")
                .replaceAll("\\s+", " ");
    }

    private static List<String> quotes() throws IOException {
        List<String> quotes = new ArrayList<>();
        try (DirectoryStream<Path> files = Files.newDirectoryStream(TESTS, "*.java")) {
            for (Path file : files) {
                Matcher said = SAID.matcher(Files.readString(file));
                while (said.find()) {
                    String quote = joined(said.group(1));
                    if (!quote.matches("Promise \\d+")) {
                        quotes.add(quote);
                    }
                }
            }
        }
        return quotes;
    }

    private static String joined(String texts) {
        StringBuilder s = new StringBuilder();
        Matcher text = Pattern.compile(TEXT).matcher(texts);
        while (text.find()) {
            s.append(texts, text.start() + 1, text.end() - 1);
        }
        return s.toString();
    }

    private static boolean mark(String document, String quote, boolean[] isQuoted) {
        int at = document.indexOf(quote);
        boolean isThere = at >= 0;
        while (at >= 0) {
            for (int i = 0; i < quote.length(); i++) {
                isQuoted[at + i] = true;
            }
            at = document.indexOf(quote, at + 1);
        }
        return isThere;
    }

    /** What is not quoted, but for the marks and spaces between sentences. */
    private static List<String> rests(String document, boolean[] isQuoted) {
        List<String> rests = new ArrayList<>();
        StringBuilder rest = new StringBuilder();
        for (int i = 0; i <= document.length(); i++) {
            if (i < document.length() && !isQuoted[i]) {
                rest.append(document.charAt(i));
                continue;
            }
            if (rest.chars().anyMatch(Character::isLetterOrDigit)) {
                rests.add(rest.toString().trim());
            }
            rest.setLength(0);
        }
        return rests;
    }
}
