import java.lang.reflect.Method;
import java.lang.reflect.Modifier;
import java.util.ArrayList;
import java.util.Comparator;
import java.util.HashMap;
import java.util.HashSet;
import java.util.List;
import java.util.Map;
import java.util.Random;
import java.util.Set;

/** Long runs by draws that mix all methods, each answer held against the model's. */
public final class ModelTest {
    private static final int RUNS = Integer.getInteger("runs", 400);
    private static final int CALLS = 512;
    // What a text may take to be fed, with signs between that are left out, and to be read.
    private static final int READING = 60;

    private final Check check = new Check();
    private final List<Method> methods = new ArrayList<>();
    private final Map<String, Set<String>> answers = new HashMap<>();
    private MistCanton x;
    private Model model;
    private Random draws;
    private int calls;

    private ModelTest() {
        for (Method m : MistCanton.class.getDeclaredMethods()) {
            if (Modifier.isPublic(m.getModifiers())) {
                methods.add(m);
            }
        }
        methods.sort(Comparator.comparing(Method::getName));
    }

    private Method method(String name) {
        return methods.stream().filter(m -> m.getName().equals(name)).findFirst().orElseThrow();
    }

    private void call(String name, long... args) {
        if (calls == CALLS) {
            return;
        }
        calls++;
        String got = Check.call(x, method(name), args);
        String want = model.call(name, args);
        answers.computeIfAbsent(name, n -> new HashSet<>()).add(want);
        check.due("call " + calls + ", " + name + java.util.Arrays.toString(args), got, want);
    }

    private void feed(String text) {
        StringBuilder mixed = new StringBuilder();
        boolean withOthers = draws.nextInt(4) == 0;
        for (char c : text.toCharArray()) {
            if (withOthers && draws.nextInt(9) == 0) {
                mixed.append((char) new int[] {0, 9, 11, 13, 31, 127, 128, 200, 255}[draws.nextInt(9)]);
            }
            mixed.append(c);
        }
        for (long[] three : Check.feeds(mixed.toString())) {
            call("feed", three);
        }
    }

    private long argument(String name, int i) {
        if (draws.nextInt(25) == 0) {
            long[] odd = {-1, -2, 7, 8, 61, 100, 10000, Integer.MIN_VALUE, Integer.MAX_VALUE, 0};
            return odd[draws.nextInt(odd.length)];
        }
        switch (name + i) {
            case "idle0", "attends1", "held1":
                return draws.nextInt(62);
            case "see1":
                return draws.nextInt(30);
            case "count0":
                return draws.nextInt(13);
            case "chance1":
                return draws.nextInt(8);
            case "chance2":
                return draws.nextInt(12);
            case "rests0", "rests1", "rests2":
                return draws.nextInt(draws.nextInt(2) == 0 ? 3 : 10);
            case "rests3":
                return draws.nextInt(6) - 1;
            case "years0":
                return draws.nextInt(10000);
            case "years1":
                return draws.nextInt(101);
            case "years2", "judged0":
                return draws.nextInt(3);
            case "least1", "mark1", "see2":
                return draws.nextInt(2);
            case "mark0":
                return draws.nextInt(5);
            default:
                return draws.nextInt(6);
        }
    }

    private void callByDraw() {
        int kind = draws.nextInt(10);
        String name = kind < 3 ? "day" : kind == 3 ? "lot" : methods.get(draws.nextInt(methods.size())).getName();
        if (name.equals("feed") || name.equals("canton") || name.equals("week")) {
            return;
        }
        long[] args = new long[method(name).getParameterCount()];
        for (int i = 0; i < args.length; i++) {
            args[i] = argument(name, i);
        }
        call(name, args);
    }

    private void run(int run) {
        check.at("run " + run);
        draws = new Random(run);
        Texts texts = new Texts(draws);
        x = new MistCanton();
        model = new Model();
        calls = 0;
        int readOften = draws.nextInt(3) == 0 ? 12 : 60;
        while (calls < CALLS) {
            int kind = calls > CALLS - READING ? readOften : draws.nextInt(readOften);
            if (calls == 0 || kind == 0) {
                feed(draws.nextInt(3) == 0 ? texts.spoiled(texts.canton()) : texts.canton());
                call("canton");
            } else if (kind <= 2) {
                feed(draws.nextInt(3) == 0 ? texts.spoiled(texts.week()) : texts.week());
                call("week");
            } else {
                callByDraw();
            }
        }
    }

    /** Every method must have been asked, most with more than one answer, or the draws test too little. */
    private void lookAtVariety() {
        check.at("variety");
        for (Method m : methods) {
            int n = answers.getOrDefault(m.getName(), Set.of()).size();
            check.due(m.getName() + " has had two answers or more", n >= 2, true);
            if (Boolean.getBoolean("verbose")) {
                System.out.println(m.getName() + " " + n + " " + answers.get(m.getName()).stream().limit(30).toList());
            }
        }
    }

    public static void main(String[] args) {
        ModelTest test = new ModelTest();
        for (int run = 0; run < RUNS && test.check.isFine(); run++) {
            test.run(run);
        }
        if (test.check.isFine()) {
            test.lookAtVariety();
        }
        test.check.end();
    }
}
