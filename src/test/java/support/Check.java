import java.lang.reflect.InvocationTargetException;
import java.lang.reflect.Method;
import java.nio.charset.StandardCharsets;
import java.util.ArrayList;
import java.util.List;

/** What the tests share: calls by name, texts fed to the tape, and answers held against what is due. */
final class Check {
    private int rows;
    private int wrong;
    private String where = "";

    /** Says which promise or run the next rows are of. */
    void at(String text) {
        where = text;
    }

    void due(String what, String got, String want) {
        rows++;
        if (!got.equals(want)) {
            wrong++;
            if (wrong <= 50) {
                System.out.println(where + ": " + what + " answered " + got + ", due is " + want);
            }
        }
    }

    void due(String what, long got, long want) {
        due(what, Long.toString(got), Long.toString(want));
    }

    void due(String what, boolean got, boolean want) {
        due(what, Boolean.toString(got), Boolean.toString(want));
    }

    boolean isFine() {
        return wrong == 0;
    }

    /** Ends the test's process: a test that checked nothing has failed too. */
    void end() {
        System.out.println(rows + " answers looked at, " + wrong + " not as due");
        if (wrong != 0 || rows == 0) {
            System.exit(1);
        }
    }

    /** The signs of a text as the arguments of feed, as many calls as it takes. */
    static List<long[]> feeds(String text) {
        byte[] bytes = text.getBytes(StandardCharsets.ISO_8859_1);
        List<long[]> calls = new ArrayList<>();
        for (int from = 0; from < bytes.length; from += 24) {
            long[] three = new long[3];
            for (int i = 0; i < 24; i++) {
                long sign = from + i < bytes.length ? bytes[from + i] & 255 : 0;
                three[i / 8] = three[i / 8] << 8 | sign;
            }
            calls.add(three);
        }
        return calls;
    }

    static void feed(MistCanton x, String text) {
        for (long[] three : feeds(text)) {
            x.feed(three[0], three[1], three[2]);
        }
    }

    static MistCanton canton(String text) {
        MistCanton x = new MistCanton();
        feed(x, text);
        int fault = x.canton();
        if (fault != 0) {
            throw new AssertionError("the test's own canton has a fault: " + fault + " in " + text);
        }
        return x;
    }

    static int week(MistCanton x, String text) {
        feed(x, text);
        return x.week();
    }

    /** What a call of the face answers, as a text; a boolean counts 1 or 0. */
    static String call(MistCanton x, Method method, long[] args) {
        Class<?>[] types = method.getParameterTypes();
        Object[] values = new Object[types.length];
        for (int i = 0; i < types.length; i++) {
            values[i] = types[i] == long.class ? (Object) args[i]
                    : types[i] == int.class ? (Object) (int) args[i] : (Object) (args[i] != 0);
        }
        try {
            Object got = method.invoke(x, values);
            return got instanceof Boolean b ? (b ? "1" : "0") : got.toString();
        } catch (InvocationTargetException e) {
            return "throws." + e.getCause().getClass().getSimpleName();
        } catch (IllegalAccessException e) {
            throw new AssertionError(e);
        }
    }
}
