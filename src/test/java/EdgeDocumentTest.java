import java.io.IOException;
import java.nio.file.DirectoryStream;
import java.nio.file.Files;
import java.nio.file.Path;
import java.util.ArrayList;
import java.util.Arrays;
import java.util.List;
import java.util.regex.Matcher;
import java.util.regex.Pattern;

/** Every boundary that the document names stands in a sentence for which one of the Edge tests has a run of its own. */
public final class EdgeDocumentTest {
    private static final Due due = new Due();
    /** A number, a bound told by a word, or a way to refuse. */
    private static final Pattern BOUNDARY = Pattern.compile("\\d+|\\b(at most|at first|first|least|last|cut|cuts|held|any|all of it"
            + "|without|beyond|above|below|missing|too soon|too many|wrap|BAD|NO|FULL|NONE|NOTHING|KIND: |INDEX|SIZE|MISSING)\\b");
    private static final Pattern SENTENCE = Pattern.compile("edges\\.of\\(\"((?:[^\"\\\\]|\\\\.)*)\"");

    public static void main(String[] args) throws IOException {
        String document = Files.readString(Path.of("../shared/DOC.md"));
        boolean[] told = told(document, sentences());
        boolean[] free = free(document);
        due.part("boundaries in the document");
        Matcher m = BOUNDARY.matcher(document);
        m.region(document.indexOf("## Terms"), document.indexOf("## Not promised"));
        while (m.find()) {
            if (!free[m.start()]) {
                String around = document.substring(Math.max(0, m.start() - 30), Math.min(document.length(), m.end() + 30));
                due.is("a run for '" + m.group() + "' in '" + around.replace('\n', ' ') + "'", told[m.start()] ? 1 : 0, 1);
            }
        }
        due.end();
    }

    private static List<String> sentences() throws IOException {
        List<String> all = new ArrayList<>();
        try (DirectoryStream<Path> files = Files.newDirectoryStream(Path.of("src/test/java"), "Edge*Test.java")) {
            for (Path file : files) {
                Matcher m = SENTENCE.matcher(Files.readString(file));
                while (m.find()) {
                    all.add(m.group(1).replace("\\\"", "\""));
                }
            }
        }
        return all;
    }

    private static boolean[] told(String document, List<String> sentences) {
        boolean[] told = new boolean[document.length()];
        for (String sentence : sentences) {
            for (int at = document.indexOf(sentence); at >= 0; at = document.indexOf(sentence, at + 1)) {
                Arrays.fill(told, at, at + sentence.length(), true);
            }
        }
        return told;
    }

    /** Headings, the numbers of parts, and the calls' own lines name no boundary. */
    private static boolean[] free(String document) {
        boolean[] free = new boolean[document.length()];
        Matcher m = Pattern.compile("(?m)^## .*$|^======== \\d|^Ahead of the calls.*$|`int [^`]*`|^```text$|\\((1|2|3|4)\\) ")
                .matcher(document);
        while (m.find()) {
            Arrays.fill(free, m.start(), m.end(), true);
        }
        return free;
    }
}
