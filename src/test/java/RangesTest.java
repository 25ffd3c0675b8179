import java.lang.reflect.Method;
import java.util.Arrays;

/**
 * Each number that a call takes, on both sides of its bounds: the least and the greatest that are taken, the ones beside
 * them that are refused, and such as would be taken if only their lower bits were looked at.
 */
public final class RangesTest {
    private static final Check CHECK = new Check();
    private static final String THROWN = "throws.NoSuchElementException";

    private static MistCanton x;

    private static Method method(String name) {
        return Arrays.stream(MistCanton.class.getMethods()).filter(m -> m.getName().equals(name)).findFirst().orElseThrow();
    }

    private static void call(String name, long[] args, int at, long value, String refused, boolean taken) {
        long[] all = args.clone();
        all[at] = value;
        String got = Check.call(x, method(name), all);
        CHECK.due(name + Arrays.toString(all) + " is taken", !got.equals(refused), taken);
    }

    /** The argument at such a place goes from least to most; with the others as told all these are taken. */
    private static void range(String name, int at, int least, int most, String refused, long... args) {
        for (int value = least; value <= most; value += value < most - 100 ? 97 : 1) {
            call(name, args, at, value, refused, true);
        }
        long[] others = {least - 1, most + 1, least - 2, Integer.MIN_VALUE, Integer.MAX_VALUE, least + 32, least - 32,
                least + 64, least + 256, least + 65536, most - 32, most - 256};
        for (long value : others) {
            if (value < least || value > most) {
                call(name, args, at, value, refused, false);
            }
        }
    }

    private static void persons(int persons, int events) {
        int last = persons - 1;
        x = Check.canton(Cantons.of(persons, events));
        CHECK.at("of " + persons + " persons and " + events + " events");
        CHECK.due("persons", x.count(0), persons);
        range("person", 0, 0, last, "-2", 0, 0);
        range("lot", 0, 0, last, "-1", 0, 2);
        range("ask", 0, 0, last, "-1", 0);
        range("leads", 0, 0, last, "-1", 0);
        range("shared", 0, 0, last, "-1", 0, 0);
        range("shared", 1, 0, last, "-1", 0, 0);
        if (events > 0) {
            range("next", 0, 0, last, "-1", 0, 0);
            x.day();
            range("through", 0, 0, last, "-1", 0, 0);
            range("through", 1, 0, last, "-1", 0, 0);
            range("meet", 0, 0, last - 1, "-1", 0, last);
            range("meet", 1, 1, last, "-1", 0, 0);
            range("meet", 0, 1, last, "-1", 0, 0);
        }
    }

    private static void events(int persons, int events) {
        int last = events - 1;
        x = Check.canton(Cantons.of(persons, events));
        CHECK.at("of " + persons + " persons and " + events + " events");
        CHECK.due("events", x.count(1), events);
        range("event", 0, 0, last, "-2", 0, 0);
        range("attends", 0, 0, last, "-1", 0, 1);
        range("held", 0, 0, last, "-1", 0, 1);
        range("group", 0, 0, last, "-1", 0);
        range("family", 0, 0, last, "-1", 0);
        range("move", 0, 0, last, "-1", 0);
        range("chance", 0, 0, last, "-1", 0, 1, 5);
        range("see", 0, 0, last, "0", 0, 1, 1);
        if (persons > 0) {
            range("quorum", 0, 0, last, "-1", 0);
            range("last", 0, 0, last, "-1", 0);
            range("least", 0, 0, last, "-3", 0, 0);
            range("next", 1, 0, last, "-1", 0, 0);
        }
    }

    private static void days() {
        CHECK.at("days");
        x = Check.canton(Cantons.FULL);
        range("attends", 1, 1, 60, "-1", 4, 0);
        range("held", 1, 1, 60, "-1", 4, 0);
        range("idle", 0, 1, 60, "-1", 0);
        x = Check.canton(Cantons.FULL);
        range("chance", 1, 1, 6, "-1", 4, 0, 5);
        range("chance", 2, 0, 10, "-1", 4, 6, 0);
        range("years", 0, 0, 9999, "-1", 0, 1, 0);
        range("years", 1, 1, 99, "-1", 9999, 0, 1);
        range("years", 2, 0, 2, "-1", 0, 99, 0);
    }

    private static void whats() {
        CHECK.at("what");
        x = Check.canton(Cantons.FULL);
        CHECK.due("a week", Check.week(x, "day;"), 0);
        range("person", 1, 0, 4, "-2", 5, 0);
        range("event", 1, 0, 4, "-2", 4, 0);
        range("lot", 1, 0, 4, "-1", 5, 0);
        range("judged", 0, 0, 2, "-2", 0);
        range("least", 1, 0, 1, "-3", 4, 0);
        range("count", 0, 0, 11, "-1", 0);
        x = new MistCanton();
        range("judged", 0, 0, 2, "-2", 0);
        range("count", 0, 0, 11, "-1", 0);
        range("idle", 0, 1, 60, "-1", 0);
        range("years", 0, 0, 9999, "-1", 0, 99, 0);
        range("mark", 0, 0, 3, "0", 0, 0);
        range("mark", 0, 0, 3, "0", 0, 1);
    }

    private static void stakes() {
        CHECK.at("stakes");
        x = new MistCanton();
        for (int at = 0; at < 3; at++) {
            range("rests", at, 0, 9, THROWN, 0, 0, 0, -1);
            range("rests", at, 0, 9, THROWN, 9, 9, 9, 1);
        }
        range("rests", 3, -1, 3, THROWN, 0, 0, 0, 0);
        range("rests", 3, -1, 2, THROWN, 9, 0, 0, 0);
        range("rests", 3, -1, 1, THROWN, 9, 9, 9, 0);
    }

    private static void sights() {
        CHECK.at("sights");
        for (int days = -1; days <= 30; days++) {
            x = Check.canton(Cantons.FULL);
            call("see", new long[] {4, 0, 1}, 1, days, "0", days >= 1 && days <= 28);
            CHECK.due("seen by it", x.count(9), days >= 1 && days <= 28 ? 1 : 0);
        }
        x = Check.canton(Cantons.FULL);
        for (long days : new long[] {33, 65, 257, -31, Integer.MIN_VALUE, Integer.MAX_VALUE}) {
            call("see", new long[] {0, 0, 0}, 1, days, "0", false);
        }
        CHECK.due("seen by them", x.count(9), 0);
    }

    public static void main(String[] args) {
        for (int n = 0; n <= 6; n++) {
            persons(n, 5);
            events(n, 5);
        }
        for (int n = 0; n < 5; n++) {
            persons(6, n);
            events(6, n);
        }
        days();
        whats();
        stakes();
        sights();
        CHECK.end();
    }
}
