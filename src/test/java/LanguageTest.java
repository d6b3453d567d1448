import java.nio.file.Files;
import java.nio.file.Path;
import java.util.List;
import java.util.regex.Matcher;
import java.util.regex.Pattern;

/** What of LANGUAGE.md can be told from the lines of the source alone. */
public final class LanguageTest {
    private static final String[] RULED_OUT = {"->", "::", "\\bfinally\\b", "\\btry\\b", "\\bcatch\\b",
        "\\bsynchronized\\b", "\\bassert\\b", "\\bSystem\\.(?!arraycopy)", "\\w+Exact\\(", "\\bString\\.",
        "\\bObject\\b", "\\bThread\\b", "\\bRandom\\b", "\\bvar\\b", "\\bvolatile\\b", "static \\{", "\\[\\]\\[\\]\\[\\]",
        "\" \\+", "\\+ \"", "[^\\x00-\\x7f]"};

    public static void main(String[] args) throws Exception {
        Check check = new Check();
        List<String> lines = Files.readAllLines(Path.of("src/main/java/CoverTwo.java"));
        for (int i = 0; i < lines.size(); i++) {
            String code = lines.get(i).strip();
            if (code.startsWith("*") || code.startsWith("/*") || code.startsWith("//")) {
                continue;
            }
            for (String pattern : RULED_OUT) {
                check.due("line " + (i + 1) + " has " + pattern, Pattern.compile(pattern).matcher(code).find(), false);
            }
            boolean other = code.startsWith("import") && !code.equals("import java.util.NoSuchElementException;");
            check.due("line " + (i + 1) + " imports", other, false);
            boolean loose = code.matches("(private |public )?static (?!final).*=.*");
            check.due("line " + (i + 1) + ": static that isn't final", loose, false);
        }
        methods(check, lines);
        String all = String.join("\n", lines);
        check.due("classes inside are some twelve at most", all.split("static final class ").length - 1 <= 11, true);
        check.end();
    }

    private static void methods(Check check, List<String> lines) {
        Pattern head = Pattern.compile("^( {4}| {8})(?! |return|else|new)[a-zA-Z\\[\\] ]+ \\w+\\((.*)\\).* \\{$");
        for (int i = 0; i < lines.size(); i++) {
            Matcher m = head.matcher(lines.get(i));
            if (m.matches() && !m.group(0).contains(" if (") && !m.group(0).contains(" for (")) {
                int end = i;
                while (!lines.get(end).equals(m.group(1) + "}")) {
                    end++;
                }
                check.due("line " + (i + 1) + ": a method of more than sixty lines", end - i > 60, false);
                check.due("line " + (i + 1) + ": more than seven parameters", m.group(2).split(",").length > 7, false);
            }
        }
    }
}
