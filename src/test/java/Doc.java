import java.io.IOException;
import java.nio.file.Files;
import java.nio.file.Path;
import java.util.LinkedHashMap;
import java.util.Map;

/** The document by its headings, so that a test can name the very sentence that it tests. */
final class Doc {
    private final Map<String, String> sections = new LinkedHashMap<>();

    static Doc read() {
        Doc doc = new Doc();
        try {
            for (String section : Files.readString(Path.of("../shared/DOC.md")).split("(?m)^## ")) {
                String heading = section.lines().findFirst().orElse("");
                doc.sections.put(heading.replaceFirst(":.*", "").strip(), section.replaceAll("\\s+", " "));
            }
        } catch (IOException e) {
            throw new IllegalStateException("the document can't be read", e);
        }
        return doc;
    }

    boolean says(String heading, String words) {
        return sections.getOrDefault(heading, "").contains(words);
    }
}
