import java.io.IOException;
import java.lang.reflect.Method;
import java.nio.file.Files;
import java.nio.file.Path;
import java.util.HashMap;
import java.util.HashSet;
import java.util.Map;
import java.util.Set;
import java.util.TreeSet;
import java.util.regex.Matcher;
import java.util.regex.Pattern;

/** The example of README.md, call by call, and that its table names each call; run from the project's folder. */
public final class ReadmeTest {
    private static final Check CHECK = new Check();
    private static final Pattern TELL = Pattern.compile("tell\\(x, \"([^\"]*)\"\\);");
    private static final Pattern CALL = Pattern.compile("x\\.(\\w+)\\(([^)]*)\\); +// (-?\\w+).*");
    private static final Map<String, Method> FACE = new HashMap<>();

    private static long number(String text) {
        return text.equals("true") ? 1 : text.equals("false") ? 0 : Long.parseLong(text);
    }

    private static long[] numbers(String texts) {
        String[] each = texts.isEmpty() ? new String[0] : texts.split(", ");
        long[] numbers = new long[each.length];
        for (int i = 0; i < each.length; i++) {
            numbers[i] = number(each[i]);
        }
        return numbers;
    }

    private static String due(String told) {
        return told.endsWith("Exception") ? "throws." + told : Long.toString(number(told));
    }

    private static void follow(String line, MistCanton x) {
        Matcher tell = TELL.matcher(line);
        Matcher call = CALL.matcher(line);
        if (tell.matches()) {
            Check.feed(x, tell.group(1));
        } else if (call.matches()) {
            CHECK.due(line, Check.call(x, FACE.get(call.group(1)), numbers(call.group(2))), due(call.group(3)));
        } else {
            CHECK.due("what the line is", line, "MistCanton x = new MistCanton();");
        }
    }

    private static void example(String readme) {
        CHECK.at("the example");
        int begin = readme.indexOf("```text\n") + "```text\n".length();
        MistCanton x = new MistCanton();
        for (String line : readme.substring(begin, readme.indexOf("```", begin)).split("\n")) {
            follow(line, x);
        }
    }

    private static void table(String readme) {
        CHECK.at("the table of calls");
        Set<String> named = new TreeSet<>();
        int begin = readme.indexOf("| what you want to know");
        Matcher m = Pattern.compile("`(\\w+)`").matcher(readme.substring(begin, readme.indexOf("\n\n", begin)));
        while (m.find()) {
            CHECK.due(m.group(1) + " is named once", named.add(m.group(1)), true);
        }
        CHECK.due("the calls", named.toString(), new TreeSet<>(FACE.keySet()).toString());
    }

    private static void tests(String readme) throws IOException {
        CHECK.at("the table of tests");
        Set<String> there = new TreeSet<>();
        try (var files = Files.list(Path.of("src/test/java"))) {
            files.map(f -> f.getFileName().toString()).filter(f -> f.endsWith("Test.java"))
                    .forEach(f -> there.add(f.replace(".java", "")));
        }
        Set<String> named = new HashSet<>();
        int begin = readme.indexOf("| test |");
        Matcher m = Pattern.compile("\\w+Test\\b").matcher(readme.substring(begin, readme.indexOf("\n\n", begin)));
        while (m.find()) {
            named.add(m.group());
        }
        CHECK.due("the tests", new TreeSet<>(named).toString(), there.toString());
    }

    public static void main(String[] args) throws IOException {
        for (Method m : MistCanton.class.getDeclaredMethods()) {
            if (java.lang.reflect.Modifier.isPublic(m.getModifiers())) {
                FACE.put(m.getName(), m);
            }
        }
        String readme = Files.readString(Path.of("README.md"));
        example(readme);
        table(readme);
        tests(readme);
        CHECK.end();
    }
}
