import java.io.IOException;
import java.nio.file.Files;
import java.nio.file.Path;
import java.util.List;
import java.util.regex.Matcher;
import java.util.regex.Pattern;

/** What of ../shared/LANGUAGE.md can be seen by words, in src/main/java/HillRider.java. */
public final class SourceTest {
    private static final Due due = new Due();

    public static void main(String[] args) throws IOException {
        String source = Files.readString(Path.of("src/main/java/HillRider.java"));
        String code = source.replaceAll("(?s)/\\*.*?\\*/", "").replaceAll("//[^\n]*", "");
        due.be("signs above 127", source.chars().filter(c -> c > 127).count(), 0);
        String[] ruledOut = {"\\bthrow\\b", "\\bthrows\\b", "\\btry\\b", "\\bcatch\\b", "\\bsynchronized\\b", "\\bassert\\b",
            "\\bimport\\b", "\\bpackage\\b", "->", "::", "@", "\\bstatic\\s*\\{", "\\bprotected\\b", "\\bdouble\\b", "Exact\\b",
            "\\btoString\\b", "\\bhashCode\\b", "\\bequals\\b", "\\bObject\\b", "\\bvar\\b", "\"\\s*\\+", "\\+\\s*\""};
        for (String words : ruledOut) {
            due.be("how often " + words, count(words, code), 0);
        }
        due.be("while without a counter", count("\\bwhile\\b", code), 0);
        due.be("public members", count("\\bpublic\\b", code), 1 + 2 + 1 + 26);
        due.be("more than 12 classes", Math.max(12, count("\\bclass\\b", code)), 12);
        due.be("inner classes that aren't static", count("(?<!static )(?<!static final )(?<!public final )class\\b", code), 0);
        methods(code.split("\n"));
        due.end("SourceTest");
    }

    private static int count(String words, String code) {
        Matcher matcher = Pattern.compile(words).matcher(code);
        int found = 0;
        while (matcher.find()) {
            found++;
        }
        return found;
    }

    private static void methods(String[] lines) {
        List<String> faces = List.of("feed", "road", "of", "told", "rides", "way", "line", "takes", "ride", "soonest", "price",
            "loses", "row", "judged", "mean", "sure", "gears", "by", "wheel", "laps", "act", "trace", "as", "image", "undo",
            "count");
        Pattern head = Pattern.compile("^( {4}| {8})(?:[a-zA-Z]+ )*(?:[a-zA-Z]+(?:\\[\\])? )([a-zA-Z]+)\\(([^)]*)\\) \\{$");
        for (int i = 0; i < lines.length; i++) {
            Matcher matcher = head.matcher(lines[i]);
            if (!matcher.matches()) {
                continue;
            }
            int end = i;
            while (!lines[end].equals(matcher.group(1) + "}")) {
                end++;
            }
            due.be("lines beyond 60 of " + matcher.group(2), Math.max(60, end - i + 1), 60);
            due.be("parameters beyond 7 of " + matcher.group(2), Math.max(7, matcher.group(3).split(",").length), 7);
            boolean face = lines[i].startsWith("    public ");
            due.be("a name of the face for " + lines[i], !face && faces.contains(matcher.group(2)) ? 1 : 0, 0);
        }
    }
}
