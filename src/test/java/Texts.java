import java.io.IOException;
import java.nio.file.Files;
import java.nio.file.Path;
import java.util.List;

/** What the tests read in the documents. */
final class Texts {
    private Texts() {
    }

    /** The lines of the first block of Java code; none if there is no such block. */
    static List<String> javaBlock(Path document) throws IOException {
        List<String> lines = Files.readAllLines(document);
        int begin = lines.indexOf("```java") + 1;
        List<String> rest = lines.subList(begin, lines.size());
        return begin == 0 ? List.of() : rest.subList(0, Math.max(0, rest.indexOf("```")));
    }
}
