import java.io.IOException;
import java.nio.file.Files;
import java.nio.file.Path;

/** ../shared/DOC.md, by its places: "What it is", "==== 1" to "==== 4", "Promise 1" to "Promise 27". */
final class Doc {
    private final String text;

    Doc() throws IOException {
        text = Files.readString(Path.of("../shared/DOC.md"));
    }

    /** Where a place's text begins, or -1. */
    int begin(String place) {
        String head = place.startsWith("====") ? "\n" + place + " " : "\n## " + place + (isPromise(place) ? ":" : "\n");
        int at = text.indexOf(head);
        return at < 0 ? -1 : at + head.length();
    }

    String of(String place) {
        int begin = begin(place);
        int heading = text.indexOf("\n## ", begin);
        int block = text.indexOf("\n==== ", begin);
        int end = heading < 0 ? text.length() : heading;
        return text.substring(begin, block < 0 ? end : Math.min(end, block));
    }

    private static boolean isPromise(String place) {
        return place.startsWith("Promise ");
    }
}
