import java.io.IOException;
import java.nio.file.Files;
import java.nio.file.Path;
import java.util.List;
import java.util.regex.Matcher;
import java.util.regex.Pattern;

/** The rules of LANGUAGE.md that can be seen in the source's text; run from the project's folder. */
public final class LanguageTest {
    private static final Check CHECK = new Check();

    private static void absent(String source, String rule, String pattern) {
        Matcher m = Pattern.compile(pattern).matcher(source);
        CHECK.due(rule, m.find() ? "found: " + m.group() : "absent", "absent");
    }

    private static void words(String source) {
        CHECK.at("words");
        CHECK.due("imports", source.split("\nimport |^import ", -1).length, 2);
        CHECK.due("the one import", source.startsWith("import java.util.NoSuchElementException;"), true);
        absent(source, "no package", "(?m)^package\\b");
        absent(source, "rule 2, no lambda", "->");
        absent(source, "rule 2, no method reference", "::");
        absent(source, "rule 6, no try and what goes with it", "\\b(try|catch|finally|assert|synchronized)\\b");
        absent(source, "rule 4, no Exact", "Exact\\b");
        absent(source, "rule 10, no joining by +", "\"\\s*\\+|\\+\\s*\"");
        absent(source, "rule 13", "\\b(System|Thread|Random|Runtime|Class)\\b");
        absent(source, "rule 3, no doubles", "\\b(double|float|Double|Float|Object|var)\\b");
        absent(source, "rule 5, no initialiser block", "static \\{");
        absent(source, "rule 6, other exceptions", "new (?!NoSuchElementException)[A-Za-z]+(Exception|Error)\\b");
        absent(source, "a number that no loop is bounded by", "while \\(true\\)|for \\(;;\\)");
        absent(source, "ASCII alone", "[^\\x0a\\x20-\\x7e]");
    }

    /** A method begins at an indent of 4 or 8 with a brace and ends with the brace at the same indent. */
    private static void lengths(List<String> lines) {
        CHECK.at("rule 11");
        Pattern begin = Pattern.compile("^( {4}| {8})(?! )(?!.*\\bclass\\b)[a-zA-Z].*\\) (throws \\w+ )?\\{$");
        for (int i = 0; i < lines.size(); i++) {
            Matcher m = begin.matcher(lines.get(i));
            if (!m.matches() || lines.get(i).matches(" +(if|for|while|switch|else)\\b.*")) {
                continue;
            }
            int end = i;
            while (!lines.get(end).equals(m.group(1) + "}")) {
                end++;
            }
            CHECK.due(lines.get(i).trim() + " is sixty lines at most", end - i + 1 <= 60, true);
        }
    }

    public static void main(String[] args) throws IOException {
        Path path = Path.of("src/main/java/MistCanton.java");
        words(Files.readString(path));
        lengths(Files.readAllLines(path));
        CHECK.end();
    }
}
