import java.io.IOException;
import java.nio.file.Files;
import java.nio.file.Path;
import java.util.ArrayList;
import java.util.Comparator;
import java.util.List;
import java.util.concurrent.ExecutorService;
import java.util.concurrent.Executors;
import java.util.concurrent.Future;
import java.util.concurrent.TimeUnit;
import java.util.regex.Matcher;
import java.util.regex.Pattern;

/**
 * Run by hand, not by .ci/run (it takes some minutes): changes MistCanton.java in one place at a time, each bound moved
 * by one first of all, and prints the changes that none of the tests sees. README.md says how to start it.
 */
public final class Mutants {
    private static final Path SOURCE = Path.of("src/main/java/MistCanton.java");
    private static final int SECONDS_MOST = 90;

    record Mutant(int line, String text) {
    }

    private static String changed(String found, String by) {
        switch (by) {
            case "+1":
            case "-1":
                return "(" + found + " " + by.charAt(0) + " 1)";
            case "SWAP":
                return found.replaceAll("(.+) : (.+)", "$2 : $1");
            default:
                return by;
        }
    }

    private static void replace(List<Mutant> all, int line, String code, String pattern, String... by) {
        Matcher m = Pattern.compile(pattern).matcher(code);
        while (m.find()) {
            for (String other : by) {
                String text = changed(m.group(), other);
                all.add(new Mutant(line, code.substring(0, m.start()) + text + code.substring(m.end())));
            }
        }
    }

    private static List<Mutant> mutants(List<String> lines) {
        List<Mutant> all = new ArrayList<>();
        for (int i = 0; i < lines.size(); i++) {
            String code = lines.get(i);
            if (code.isBlank() || code.strip().matches("(//|/\\*|\\*|import).*") || code.contains("\"")) {
                continue;
            }
            replace(all, i, code, "(?<![\\w.'])\\d+L?(?![\\w'])", "+1", "-1");
            if (!code.contains("static final") && !code.contains("case ")) {
                replace(all, i, code, "(?<![.\\w])[A-Z][A-Z_]{2,}\\b", "+1", "-1");
            }
            replace(all, i, code, " < ", " <= ");
            replace(all, i, code, " <= ", " < ");
            replace(all, i, code, " > ", " >= ");
            replace(all, i, code, " >= ", " > ");
            replace(all, i, code, " == ", " != ");
            replace(all, i, code, " != ", " == ");
            replace(all, i, code, " && ", " || ");
            replace(all, i, code, " \\|\\| ", " && ");
            replace(all, i, code, " \\+ ", " - ");
            replace(all, i, code, " - ", " + ");
            replace(all, i, code, " & ", " | ");
            replace(all, i, code, " \\| ", " & ");
            replace(all, i, code, " [|&+-]= ", " = ");
            replace(all, i, code, " << ", " >> ");
            replace(all, i, code, "~", "");
            replace(all, i, code, "(?<=[(& ])!(?=[a-z])", "");
            replace(all, i, code, "\\bMath.max\\b", "Math.min");
            replace(all, i, code, "\\bMath.min\\b", "Math.max");
            replace(all, i, code, "(?<=if \\().*(?=\\) \\{$)", "true", "false");
            replace(all, i, code, "(?<= \\? )[^?:]+ : [^?:;]+(?=;)", "SWAP");
            if (code.matches(" +[\\w.\\[\\]]+ [|&+-]?= .*;| +\\w+(\\.\\w+)*\\(.*\\);| +[\\w.\\[\\]]+(\\+\\+|--);")) {
                all.add(new Mutant(i, ";"));
            }
        }
        return all;
    }

    private static int run(String... command) throws IOException, InterruptedException {
        Process p = new ProcessBuilder(command).redirectErrorStream(true).redirectOutput(ProcessBuilder.Redirect.DISCARD).start();
        if (!p.waitFor(SECONDS_MOST, TimeUnit.SECONDS)) {
            p.destroyForcibly();
            return 1;
        }
        return p.exitValue();
    }

    private static void delete(Path folder) throws IOException {
        try (var paths = Files.walk(folder)) {
            for (Path path : paths.sorted(Comparator.reverseOrder()).toList()) {
                Files.delete(path);
            }
        }
    }

    private static boolean isSeen(List<String> lines, Mutant mutant, String classes, List<String> tests) throws Exception {
        Path folder = Files.createTempDirectory("mutant");
        try {
            List<String> changed = new ArrayList<>(lines);
            changed.set(mutant.line(), mutant.text());
            Path file = Files.write(folder.resolve("MistCanton.java"), changed);
            if (run("javac", "-J-XX:TieredStopAtLevel=1", "-d", folder.toString(), file.toString()) != 0) {
                return true;
            }
            for (String test : tests) {
                if (run("java", "-XX:TieredStopAtLevel=1", "-XX:+UseSerialGC", "-cp", folder + ":" + classes, test) != 0) {
                    return true;
                }
            }
            return false;
        } finally {
            delete(folder);
        }
    }

    public static void main(String[] args) throws Exception {
        String classes = args[0];
        List<String> tests = List.of(args).subList(1, args.length);
        List<String> lines = Files.readAllLines(SOURCE);
        List<Mutant> all = mutants(lines);
        ExecutorService workers = Executors.newFixedThreadPool(Runtime.getRuntime().availableProcessors());
        List<Future<Boolean>> seen = new ArrayList<>();
        for (Mutant mutant : all) {
            seen.add(workers.submit(() -> isSeen(lines, mutant, classes, tests)));
        }
        int unseen = 0;
        for (int i = 0; i < all.size(); i++) {
            if (!seen.get(i).get()) {
                unseen++;
                int line = all.get(i).line();
                System.out.println((line + 1) + ": " + lines.get(line).strip() + "   =>   " + all.get(i).text().strip());
            }
        }
        workers.shutdown();
        System.out.println(all.size() + " changes, " + unseen + " that no test sees");
    }
}
