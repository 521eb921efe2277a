import java.io.IOException;
import java.lang.reflect.Method;
import java.lang.reflect.Modifier;
import java.nio.file.DirectoryStream;
import java.nio.file.Files;
import java.nio.file.Path;
import java.util.regex.Matcher;
import java.util.regex.Pattern;

/** What README.md has to name; whether its examples answer as it says, .ci/run tests by the program that Readme prints. */
public final class ReadmeTest {
    private static final Due due = new Due();

    private ReadmeTest() {
    }

    public static void main(String[] args) throws IOException {
        Readme readme = new Readme();
        eachCallHasAnAnswer(readme);
        eachTestIsNamed(readme.page);
        due.end("ReadmeTest");
    }

    private static void eachCallHasAnAnswer(Readme readme) {
        StringBuilder answered = new StringBuilder();
        for (String line : readme.lines()) {
            boolean isCall = line.startsWith("rider.") || line.contains("//");
            due.be("an answer that can be read behind '" + line + "'", isCall && !Readme.hasAnswer(line) ? 0 : 1, 1);
            answered.append(Readme.hasAnswer(line) ? line : "");
        }
        for (Method call : HillRider.class.getDeclaredMethods()) {
            if (Modifier.isPublic(call.getModifiers())) {
                due.be("an answer of " + call.getName(), answered.indexOf("." + call.getName() + "(") < 0 ? 0 : 1, 1);
            }
        }
    }

    private static void eachTestIsNamed(String page) throws IOException {
        try (DirectoryStream<Path> files = Files.newDirectoryStream(Path.of("src/test/java"), "*Test.java")) {
            for (Path file : files) {
                String name = file.getFileName().toString().replace(".java", "");
                due.be("the name of " + name, page.contains("`" + name + "`") ? 1 : 0, 1);
            }
        }
        Matcher named = Pattern.compile("`(\\w+Test)`").matcher(page);
        while (named.find()) {
            boolean stands = Files.exists(Path.of("src/test/java", named.group(1) + ".java"));
            due.be("a test that is named " + named.group(1), stands ? 1 : 0, 1);
        }
    }
}
