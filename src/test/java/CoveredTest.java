import java.io.IOException;
import java.nio.file.DirectoryStream;
import java.nio.file.Files;
import java.nio.file.Path;
import java.util.ArrayList;
import java.util.List;
import java.util.regex.Matcher;
import java.util.regex.Pattern;

/** Each word of ../shared/DOC.md that names a boundary or a refusal stands in the name of some test of it. */
public final class CoveredTest {
    private static final Pattern NAMED = Pattern.compile("edges\\.test\\(\"([^\"]+)\",\\s+((?:\"[^\"]+\"[\\s+]*)+)");
    private static final Pattern BOUNDARY = Pattern.compile("at most|at least|least|the most|as the most|\\d \\.\\. \\d|\\bat first\\b"
        + "|-5|-6|-1:|-10\\b|-1000\\d|\\bNONE\\b|\\bBAD\\b|\\bSTATE\\b|\\bFULL\\b|\\bNO\\b|\\bNo\\b|without|of several|the first|the last"
        + "|the newest|the greatest|fewest|rounded up|\\bcut\\b|wrapping|or more|or fewer|no more than|below 0|above 0|above bar"
        + "|is less than|\\btoo\\b|ahead of all|stays|empty|kept|lowest terms|beyond|ends? too early|0 as 1|always|not told|FAULT"
        + "|one blank|a digit|digits|holds|change nothing|latest|there or not|no such|\\(0\\)|512");
    private static final Due due = new Due();

    private CoveredTest() {
    }

    public static void main(String[] args) throws IOException {
        Doc doc = new Doc();
        List<String[]> names = names();
        for (int i = 1; i <= 4; i++) {
            covered(doc, "==== " + i, names);
        }
        for (int i = 1; i <= 27; i++) {
            covered(doc, "Promise " + i, names);
        }
        covered(doc, "What it is", names);
        due.end("CoveredTest");
    }

    /** The places and the words of all tests that are named after a sentence. */
    private static List<String[]> names() throws IOException {
        List<String[]> names = new ArrayList<>();
        try (DirectoryStream<Path> files = Files.newDirectoryStream(Path.of("src/test/java"), "*EdgesTest.java")) {
            for (Path file : files) {
                Matcher matcher = NAMED.matcher(Files.readString(file));
                while (matcher.find()) {
                    String words = matcher.group(2).replaceAll("\"\\s*\\+\\s*\"", "");
                    names.add(new String[] {matcher.group(1), words.substring(1, words.lastIndexOf('"'))});
                }
            }
        }
        return names;
    }

    private static void covered(Doc doc, String place, List<String[]> names) {
        String text = doc.of(place);
        boolean[] isNamed = new boolean[text.length()];
        for (String[] name : names) {
            int from = name[0].equals(place) ? text.indexOf(name[1]) : -1;
            for (int i = 0; from >= 0 && i < name[1].length(); i++) {
                isNamed[from + i] = true;
            }
        }
        Matcher boundary = BOUNDARY.matcher(text);
        while (boundary.find()) {
            int begin = Math.max(0, boundary.start() - 30);
            int end = Math.min(text.length(), boundary.end() + 30);
            String words = place + ", '" + boundary.group() + "' in '" + text.substring(begin, end).replace('\n', ' ') + "'";
            due.be("tests named after " + words, isNamed[boundary.start()] && isNamed[boundary.end() - 1] ? 1 : 0, 1);
        }
    }
}
