import java.io.ByteArrayOutputStream;
import java.io.IOException;
import java.io.PrintStream;
import java.net.URL;
import java.net.URLClassLoader;
import java.nio.file.Files;
import java.nio.file.Path;
import java.util.ArrayList;
import java.util.Comparator;
import java.util.List;
import java.util.regex.Matcher;
import java.util.regex.Pattern;
import java.util.stream.Stream;
import javax.tools.ToolProvider;

/** README.md's example compiles, and each of its lines prints what its comment tells; each call has its place there. */
public final class ReadmeTest {
    public static void main(String[] args) throws Exception {
        Check check = new Check();
        String readme = Files.readString(Path.of("README.md"));
        String example = readme.replaceFirst("(?s).*```java\\n(.*?)```.*", "$1");
        List<String> due = new ArrayList<>();
        Matcher comments = Pattern.compile("println\\(.*\\); // (.*)").matcher(example);
        while (comments.find()) {
            due.add(comments.group(1));
        }
        check.due("lines that tell what they print", due.size() > 0, true);
        List<String> printed = printedBy(example);
        check.due("printed " + printed + ", told " + due, printed.equals(due), true);
        for (String call : Driven.CALLS.keySet()) {
            boolean told = Pattern.compile("(?m)^\\|.*\\b" + call + "\\b.*\\|.*\\|$").matcher(readme).find();
            check.due(call + " has a place in the table of calls", told, true);
        }
        check.end();
    }

    private static List<String> printedBy(String example) throws Exception {
        Path room = Files.createTempDirectory("readme");
        PrintStream before = System.out;
        ByteArrayOutputStream printed = new ByteArrayOutputStream();
        try (URLClassLoader loader = new URLClassLoader(new URL[] {room.toUri().toURL()})) {
            Path file = Files.writeString(room.resolve("Example.java"), example);
            ToolProvider.getSystemJavaCompiler().run(null, null, null, "-cp", System.getProperty("java.class.path"),
                "-d", room.toString(), file.toString());
            System.setOut(new PrintStream(printed, true));
            loader.loadClass("Example").getMethod("main", String[].class).invoke(null, (Object) new String[0]);
        } finally {
            System.setOut(before);
            clear(room);
        }
        return printed.toString().lines().toList();
    }

    private static void clear(Path room) throws IOException {
        try (Stream<Path> paths = Files.walk(room)) {
            for (Path path : paths.sorted(Comparator.reverseOrder()).toList()) {
                Files.delete(path);
            }
        }
    }
}
