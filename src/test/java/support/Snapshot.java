import java.util.NoSuchElementException;

/**
 * All that an object answers, call by call, in one text, so that two objects can be held against each other. It takes
 * less than 400 calls, and uses the object up: in the end all is undone, each mark gone back to, and the tape read.
 */
final class Snapshot {
    private static final int PERSONS = 6;
    private static final int EVENTS = 5;

    private final MistCanton x;
    private final StringBuilder text = new StringBuilder();

    private Snapshot(MistCanton x) {
        this.x = x;
    }

    static String of(MistCanton x) {
        Snapshot s = new Snapshot(x);
        s.whatThereIs();
        s.persons();
        s.events();
        s.all();
        s.undone();
        s.marks();
        s.add("canton", x.canton());
        s.counts(0, 2);
        return s.text.toString();
    }

    /** The first answer of one object that is not the other one's; nothing if there is none. */
    static String firstDifference(MistCanton one, MistCanton other) {
        String[] a = of(one).split("\n");
        String[] b = of(other).split("\n");
        for (int i = 0; i < a.length; i++) {
            if (!a[i].equals(b[i])) {
                return a[i] + ", not " + b[i];
            }
        }
        return "";
    }

    private void add(String name, int answer) {
        text.append(name).append(' ').append(answer).append('\n');
    }

    private void counts(int from, int to) {
        for (int what = from; what <= to; what++) {
            add("count " + what, x.count(what));
        }
    }

    private void whatThereIs() {
        counts(0, 11);
        for (int what = 0; what < 5; what++) {
            for (int p = 0; p < PERSONS; p++) {
                add("person " + p + " " + what, x.person(p, what));
            }
            for (int e = 0; e < EVENTS; e++) {
                add("event " + e + " " + what, x.event(e, what));
            }
        }
        for (int what = 0; what < 3; what++) {
            add("judged " + what, x.judged(what));
            add("years " + what, x.years(77, 30, what));
        }
    }

    private void persons() {
        for (int p = 0; p < PERSONS; p++) {
            add("leads " + p, x.leads(p));
            for (int e = 0; e < EVENTS; e++) {
                add("next " + p + " " + e, x.next(p, e));
            }
            for (int other = 0; other < p; other++) {
                add("meet " + p + " " + other, x.meet(p, other));
                add("through " + p + " " + other, x.through(p, other));
            }
        }
    }

    private void events() {
        for (int e = 0; e < EVENTS; e++) {
            add("attends " + e, x.attends(e, 7));
            add("quorum " + e, x.quorum(e));
            add("held " + e, x.held(e, 60));
            add("group " + e, x.group(e));
            add("least " + e, x.least(e, 0));
            add("family " + e, x.family(e));
            add("move " + e, x.move(e));
            add("last " + e, x.last(e));
            add("chance " + e, x.chance(e, 5, 3));
        }
    }

    private void all() {
        add("idle", x.idle(60));
        add("busy", x.busy());
        add("lots", x.lots());
        add("look", x.look());
        add("guess", x.guess());
        add("wrong", x.wrong());
        add("spread", x.spread());
        add("pairs", x.pairs());
        add("wedded", x.wedded());
        add("circles", x.circles());
        add("cover", x.cover());
        add("lonely", x.lonely());
        add("right", x.right());
        add("twins", x.twins());
        add("steady", x.steady());
        try {
            add("rests", x.rests(2, 5, 1, 1));
        } catch (NoSuchElementException e) {
            add("rests threw", 1);
        }
    }

    private void undone() {
        for (int i = 0; i < 17; i++) {
            add("undo", x.undo() ? 1 : 0);
            add("the day", x.count(2));
            add("held", x.count(5));
            add("lots", x.person(i % PERSONS, 1));
            add("met", x.person(i % PERSONS, 4));
        }
    }

    private void marks() {
        for (int mark = 0; mark < 4; mark++) {
            add("mark " + mark, x.mark(mark, true) ? 1 : 0);
            counts(2, 11);
            add("seen", x.lots());
        }
    }
}
