import java.lang.reflect.Constructor;
import java.lang.reflect.Field;
import java.lang.reflect.Method;
import java.lang.reflect.Modifier;
import java.util.ArrayList;
import java.util.Arrays;
import java.util.HashSet;
import java.util.List;
import java.util.NoSuchElementException;
import java.util.Set;
import java.util.TreeSet;

/** The public face as the document writes it, and the rules of LANGUAGE.md that can be seen from outside. */
public final class FaceTest {
    private static final Check CHECK = new Check();
    private static final String[] FACE = {"int feed(long long long)", "int canton()", "int week()",
            "int person(int int)", "int event(int int)", "int day()", "int lot(int int)", "int ask(int)",
            "boolean undo()", "int judged(int)", "int attends(int int)", "int next(int int)", "int quorum(int)",
            "int held(int int)", "int meet(int int)", "int idle(int)", "int busy()", "int group(int)",
            "int least(int int)", "boolean see(int int boolean)", "int lots()", "int look()", "int guess()",
            "int wrong()", "int leads(int)", "int spread()", "int pairs()", "int family(int)", "int through(int int)",
            "int wedded()", "int circles()", "int cover()", "int shared(int int)", "int lonely()", "int right()",
            "int move(int)", "int twins()", "int last(int)", "int steady()", "int chance(int int int)",
            "int rests(int int int int)", "int years(int int int)", "boolean mark(int boolean)", "int count(int)"};

    private static String told(Method m) {
        List<String> types = new ArrayList<>();
        for (Class<?> type : m.getParameterTypes()) {
            types.add(type.getName());
        }
        return m.getReturnType().getName() + " " + m.getName() + "(" + String.join(" ", types) + ")";
    }

    private static void face() throws NoSuchMethodException {
        CHECK.at("the face");
        int modifiers = MistCanton.class.getModifiers();
        CHECK.due("public and final", Modifier.isPublic(modifiers) && Modifier.isFinal(modifiers), true);
        CHECK.due("NONE", MistCanton.NONE, -1);
        Set<String> seen = new TreeSet<>();
        for (Method m : MistCanton.class.getDeclaredMethods()) {
            if (!Modifier.isPrivate(m.getModifiers())) {
                seen.add(told(m));
                CHECK.due(m.getName() + " is public and no static", m.getModifiers(), Modifier.PUBLIC);
            }
        }
        CHECK.due("methods", seen.toString(), new TreeSet<>(Arrays.asList(FACE)).toString());
        for (Field f : MistCanton.class.getDeclaredFields()) {
            CHECK.due(f.getName() + " is private", Modifier.isPrivate(f.getModifiers()), !f.getName().equals("NONE"));
        }
        Constructor<?>[] constructors = MistCanton.class.getDeclaredConstructors();
        CHECK.due("constructors", constructors.length, 1);
        CHECK.due("it is public", Modifier.isPublic(constructors[0].getModifiers()), true);
        CHECK.due("it takes nothing", constructors[0].getParameterCount(), 0);
        Method rests = MistCanton.class.getMethod("rests", int.class, int.class, int.class, int.class);
        CHECK.due("rests throws", Arrays.asList(rests.getExceptionTypes()).contains(NoSuchElementException.class), true);
    }

    private static void names() {
        CHECK.at("rule 1");
        Set<String> face = new HashSet<>();
        for (Method m : MistCanton.class.getDeclaredMethods()) {
            if (Modifier.isPublic(m.getModifiers())) {
                face.add(m.getName());
            }
        }
        List<Class<?>> all = new ArrayList<>(Arrays.asList(MistCanton.class.getDeclaredClasses()));
        for (Class<?> c : all) {
            CHECK.due(c.getName() + " is static", Modifier.isStatic(c.getModifiers()), true);
            CHECK.due(c.getName() + " is no public one", Modifier.isPublic(c.getModifiers()), false);
        }
        all.add(MistCanton.class);
        for (Class<?> c : all) {
            for (Method m : c.getDeclaredMethods()) {
                boolean own = c == MistCanton.class && Modifier.isPublic(m.getModifiers());
                CHECK.due(c.getName() + "." + m.getName() + " bears a name of the face", face.contains(m.getName()), own);
            }
        }
    }

    private static void sizes() {
        CHECK.at("rules 5 and 11");
        List<Class<?>> all = new ArrayList<>(Arrays.asList(MistCanton.class.getDeclaredClasses()));
        CHECK.due("twelve classes at most", all.size() + 1 <= 12, true);
        all.add(MistCanton.class);
        for (Class<?> c : all) {
            int fields = 0;
            for (Field f : c.getDeclaredFields()) {
                if (Modifier.isStatic(f.getModifiers())) {
                    boolean constant = f.getType().isPrimitive() || f.getType() == String.class;
                    CHECK.due(f.getName() + " is a constant", constant && Modifier.isFinal(f.getModifiers()), true);
                } else {
                    fields++;
                }
            }
            CHECK.due(c.getName() + " has twenty fields at most", fields <= 20, true);
            for (Method m : c.getDeclaredMethods()) {
                CHECK.due(m.getName() + " takes seven at most", m.getParameterCount() <= 7, true);
            }
        }
    }

    public static void main(String[] args) throws NoSuchMethodException {
        face();
        names();
        sizes();
        CHECK.end();
    }
}
