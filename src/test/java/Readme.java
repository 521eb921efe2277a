import java.io.IOException;
import java.nio.file.Files;
import java.nio.file.Path;
import java.util.ArrayList;
import java.util.List;
import java.util.regex.Matcher;
import java.util.regex.Pattern;

/** README.md and the examples in it. Run alone it prints them as a test, one program from the first to the last. */
final class Readme {
    private static final Pattern EXAMPLE = Pattern.compile("(?s)```java\n(.*?)```");
    private static final Pattern ANSWERED =
        Pattern.compile("((?:int|long) (\\w+) = )?(\\S.*); +// (-?\\d+|NONE|BAD|STATE|FULL|NO)(?:: .*)?");

    final String page;

    Readme() throws IOException {
        page = Files.readString(Path.of("README.md"));
    }

    public static void main(String[] args) throws IOException {
        System.out.print(new Readme().test());
    }

    private List<String> examples() {
        List<String> examples = new ArrayList<>();
        Matcher matcher = EXAMPLE.matcher(page);
        while (matcher.find()) {
            examples.add(matcher.group(1));
        }
        return examples;
    }

    /** The lines of all examples that are no member. */
    List<String> lines() {
        List<String> lines = new ArrayList<>();
        for (String example : examples()) {
            if (!isMember(example)) {
                lines.addAll(example.lines().toList());
            }
        }
        return lines;
    }

    static boolean hasAnswer(String line) {
        return ANSWERED.matcher(line).matches();
    }

    private static boolean isMember(String example) {
        return example.startsWith("static ");
    }

    private String test() {
        StringBuilder test = new StringBuilder("public final class ReadmeExamples {\n");
        for (String example : examples()) {
            test.append(isMember(example) ? example : "");
        }
        test.append("public static void main(String[] args) {\nDue due = new Due();\n");
        for (String line : lines()) {
            test.append(statement(line)).append('\n');
        }
        return test.append("due.end(\"ReadmeExamples\");\n}\n}\n").toString();
    }

    private static String statement(String line) {
        Matcher matcher = ANSWERED.matcher(line);
        if (!matcher.matches()) {
            return line;
        }
        boolean isKept = matcher.group(1) != null;
        String call = matcher.group(3);
        String answer = matcher.group(4);
        String due = Character.isLetter(answer.charAt(0)) ? "HillRider." + answer : answer + "L";
        String kept = isKept ? matcher.group(1) + call + "; " : "";
        return kept + "due.be(\"" + call.replace("\"", "\\\"") + "\", " + (isKept ? matcher.group(2) : call) + ", " + due + ");";
    }
}
