import java.util.NoSuchElementException;

/** Promises 30 to 34 and 42: who has met whom, the fewest events, and a well at rest. */
public final class MetTest {
    private static final Check CHECK = new Check();

    private static void met() {
        CHECK.at("promises 30, 31, 32");
        MistCanton x = Check.canton(Cantons.CHAIN);
        CHECK.due("the same", x.through(4, 4), 0);
        CHECK.due("not yet", x.through(0, 1), -1);
        CHECK.due("five circles", x.circles(), 5);
        CHECK.due("nobody is wedded", x.wedded(), 0);
        x.day();
        CHECK.due("one step", x.through(1, 0), 1);
        CHECK.due("a and b", x.wedded(), 3);
        CHECK.due("four circles", x.circles(), 4);
        x.day();
        x.day();
        int[] steps = {0, 1, 2, 3, -1};
        for (int p = 0; p < 5; p++) {
            CHECK.due("through(0, " + p + ")", x.through(0, p), steps[p]);
            CHECK.due("through(" + p + ", 0)", x.through(p, 0), steps[p]);
        }
        CHECK.due("a and d", x.wedded(), 9);
        CHECK.due("two circles", x.circles(), 2);
        CHECK.due("pairs", x.count(6), 3);
        for (int[] a : new int[][] {{-1, 0}, {5, 0}, {0, -1}, {0, 5}, {5, 5}}) {
            CHECK.due("through(" + a[0] + ", " + a[1] + ")", x.through(a[0], a[1]), -1);
        }
        MistCanton six = Check.canton("person f plain lot 2;" + Cantons.CHAIN + "event v on 4 needs 1;"
                + "event w on 5 needs 1;comes d v;comes e v;comes e w;comes f w;");
        for (int d = 0; d < 5; d++) {
            six.day();
        }
        CHECK.due("five steps", six.through(0, 1), 5);
        CHECK.due("one circle", six.circles(), 1);
        CHECK.due("nobody", new MistCanton().circles() + new MistCanton().wedded(), 0);
    }

    private static void events() {
        CHECK.at("promises 33, 34");
        CHECK.due("x and z", Check.canton(Cantons.CHAIN).cover(), 5);
        CHECK.due("mass alone", Check.canton(Cantons.KINDS).cover(), 1);
        String two = "person a plain lot 2;person b plain lot 2;event p on 0 needs 1;event q on 0 needs 1;"
                + "event r on 0 needs 1;event s on 0 needs 1;";
        CHECK.due("nobody is to come", Check.canton(two).cover(), 0);
        CHECK.due("of equal ones the least", Check.canton(two + "comes a s;comes a q;").cover(), 2);
        CHECK.due("one, though it is the highest", Check.canton(two + "comes a p;comes b q;comes a s;comes b s;").cover(), 8);
        CHECK.due("two of two", Check.canton(two + "comes a r;comes a q;comes b p;").cover(), 3);
        CHECK.due("an event that nobody meets at", Check.canton(two + "comes a s;goes 0;").cover(), 8);
        CHECK.due("nothing", new MistCanton().cover(), 0);
        MistCanton x = Check.canton(Cantons.CHAIN);
        CHECK.due("a and b", x.shared(0, 1), 1);
        CHECK.due("c and b", x.shared(2, 1), 2);
        CHECK.due("a and c", x.shared(0, 2), 0);
        CHECK.due("b and b", x.shared(1, 1), 3);
        CHECK.due("e and e", x.shared(4, 4), 0);
        for (int[] a : new int[][] {{-1, 0}, {5, 0}, {0, -1}, {0, 5}}) {
            CHECK.due("shared(" + a[0] + ", " + a[1] + ")", x.shared(a[0], a[1]), -1);
        }
    }

    private static String rests(int lose, int early, int late, int what) {
        try {
            return Integer.toString(new MistCanton().rests(lose, early, late, what));
        } catch (NoSuchElementException e) {
            return "none";
        }
    }

    private static void well(int lose, int early, int late, String... due) {
        String well = "rests(" + lose + ", " + early + ", " + late + ", ";
        CHECK.due(well + "NONE)", rests(lose, early, late, MistCanton.NONE), Integer.toString(due.length));
        for (int i = 0; i < due.length; i++) {
            CHECK.due(well + i + ")", rests(lose, early, late, i), due[i]);
        }
        CHECK.due(well + "one more)", rests(lose, early, late, due.length), "none");
        CHECK.due(well + "-2)", rests(lose, early, late, -2), "none");
    }

    private static void wells() {
        CHECK.at("promise 42");
        well(0, 0, 0, "0", "1", "2", "3");
        well(2, 5, 1, "1", "2");
        well(0, 5, 0, "1", "2", "3");
        well(0, 0, 1, "0", "1", "2");
        well(9, 0, 0, "0", "1", "2");
        well(9, 9, 9, "1", "2");
        well(3, 1, 2, "1", "2");
        for (int odd : new int[] {-1, 10, Integer.MAX_VALUE, Integer.MIN_VALUE}) {
            CHECK.due("lose " + odd, rests(odd, 0, 0, -1), "none");
            CHECK.due("early " + odd, rests(0, odd, 0, -1), "none");
            CHECK.due("late " + odd, rests(0, 0, odd, -1), "none");
            CHECK.due("late " + odd + ", 0", rests(0, 0, odd, 0), "none");
        }
    }

    public static void main(String[] args) {
        met();
        events();
        wells();
        CHECK.end();
    }
}
