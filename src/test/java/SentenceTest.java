import java.io.IOException;
import java.nio.file.DirectoryStream;
import java.nio.file.Files;
import java.nio.file.Path;
import java.util.ArrayList;
import java.util.Arrays;
import java.util.List;
import java.util.regex.Matcher;
import java.util.regex.Pattern;

/** Each sentence of the document, up to what it doesn't promise, is named in its own words by a test of edges. */
public final class SentenceTest extends Edges {
    private static final Path TESTS = Path.of("src/test/java");
    /** Texts in a test's source, with those that are joined to them. */
    private static final Pattern TEXT = Pattern.compile("\"((?:[^\"\\\\]|\\\\.)*)\"");
    private static final Pattern JOIN = Pattern.compile("\"\\s*\\+\\s*\"");
    /** Shorter ones may stand in the document by chance. */
    private static final int SHORTEST_QUOTE = 8;
    /** What stands beside sentences: headings, the face, which FaceTest looks at, and the names of the terms. */
    private static final Pattern NO_SENTENCE = Pattern.compile(
        "## What it is|## The public face .*?\\} |## Promise \\d+: [^`]*`[^`]*`:|## Terms"
            + "|\\d\\. FORMATS: |\\d\\. ROUNDING|\\d\\. ACTS on values, |\\d\\. FIGURES\\. ");

    public static void main(String[] args) throws IOException {
        String document = document();
        int begin = document.indexOf("## What it is");
        int end = document.indexOf("## Not promised");
        if (begin < 0 || end < begin) {
            System.out.println("the document does not say what it is, and what is not promised");
            System.exit(1);
        }
        String sentences = document.substring(begin, end);
        boolean[] named = new boolean[sentences.length()];
        for (String quote : quotes()) {
            mark(sentences, quote, named);
        }
        Matcher other = NO_SENTENCE.matcher(sentences);
        while (other.find()) {
            Arrays.fill(named, other.start(), other.end(), true);
        }
        List<String> rest = unnamed(sentences, named);
        for (String words : rest) {
            System.out.println("no test names '" + words.trim() + "'");
        }
        System.out.println(rest.isEmpty() ? "all sentences are named" : rest.size() + " parts are not named");
        if (!rest.isEmpty()) {
            System.exit(1);
        }
    }

    private static List<String> quotes() throws IOException {
        List<String> all = new ArrayList<>();
        try (DirectoryStream<Path> tests = Files.newDirectoryStream(TESTS, "*EdgesTest.java")) {
            for (Path test : tests) {
                String source = JOIN.matcher(Files.readString(test)).replaceAll("");
                Matcher text = TEXT.matcher(source);
                while (text.find()) {
                    all.add(text.group(1).replace("\\\"", "\""));
                }
            }
        }
        return all;
    }

    private static void mark(String sentences, String quote, boolean[] named) {
        if (quote.length() < SHORTEST_QUOTE) {
            return;
        }
        for (int at = sentences.indexOf(quote); at >= 0; at = sentences.indexOf(quote, at + 1)) {
            Arrays.fill(named, at, at + quote.length(), true);
        }
    }

    /** The stretches with letters or figures that aren't named. */
    private static List<String> unnamed(String sentences, boolean[] named) {
        List<String> rest = new ArrayList<>();
        StringBuilder open = new StringBuilder();
        for (int i = 0; i <= named.length; i++) {
            if (i < named.length && !named[i]) {
                open.append(sentences.charAt(i));
                continue;
            }
            if (open.chars().anyMatch(Character::isLetterOrDigit)) {
                rest.add(open.toString());
            }
            open.setLength(0);
        }
        return rest;
    }
}
