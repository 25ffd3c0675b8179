import java.util.ArrayList;
import java.util.List;
import java.util.NoSuchElementException;

/** Promises 30 to 34 and 42 on both sides of each bound that the document tells. */
public final class MetEdgesTest {
    private static final Check CHECK = new Check();

    /** Six, a to f, of whom each two that are named meet on a day of their own: 1, 2 and so on. */
    private static MistCanton met(String... pairs) {
        StringBuilder text = new StringBuilder(Cantons.of(6, 0));
        for (int i = 0; i < pairs.length; i++) {
            text.append("event ").append((char) ('p' + i)).append(" on ").append(i + 1).append(" needs 6;");
            for (char c : pairs[i].toCharArray()) {
                text.append("comes ").append(c).append(' ').append((char) ('p' + i)).append(';');
            }
        }
        MistCanton x = Check.canton(text.toString());
        for (int i = 0; i < pairs.length; i++) {
            x.day();
        }
        return x;
    }

    private static void steps(String what, MistCanton x, int person, int... due) {
        for (int other = 0; other < due.length; other++) {
            CHECK.due(what + ", through(" + person + ", " + other + ")", x.through(person, other), due[other]);
            CHECK.due(what + ", through(" + other + ", " + person + ")", x.through(other, person), due[other]);
        }
    }

    private static void through() {
        CHECK.at("promise 30");
        steps("nobody has met", met(), 5, -1, -1, -1, -1, -1, 0);
        steps("a row", met("ab", "bc", "cd", "de", "ef"), 0, 0, 1, 2, 3, 4, 5);
        steps("a row without its end", met("ab", "bc", "cd", "de"), 0, 0, 1, 2, 3, 4, -1);
        steps("a row from its end", met("ef", "de", "cd", "bc", "ab"), 5, 5, 4, 3, 2, 1, 0);
        steps("a ring", met("ab", "bc", "cd", "de", "ea"), 0, 0, 1, 2, 2, 1, -1);
        steps("a star", met("af", "bf", "cf", "df", "ef"), 0, 0, 2, 2, 2, 2, 1);
        steps("all at once", met("abcdef"), 3, 1, 1, 1, 0, 1, 1);
        steps("two threes", met("ace", "bdf"), 1, -1, 0, -1, 1, -1, 1);
        MistCanton x = met("ab", "bc");
        x.undo();
        steps("undone", x, 0, 0, 1, -1);
    }

    private static void wedded() {
        CHECK.at("promise 31");
        CHECK.due("nobody", met().wedded(), 0);
        CHECK.due("two", met("af").wedded(), 33);
        CHECK.due("three pairs", met("ab", "cd", "ef").wedded(), 63);
        CHECK.due("the same two again", met("ab", "ab").wedded(), 3);
        CHECK.due("who has met two is not", met("ab", "bc").wedded(), 5);
        CHECK.due("three at once", met("abc").wedded(), 0);
        CHECK.due("a star", met("af", "bf", "cf", "df", "ef").wedded(), 31);
    }

    private static void circles() {
        CHECK.at("promise 32");
        CHECK.due("six", met().circles(), 6);
        CHECK.due("five", met("af").circles(), 5);
        CHECK.due("not beside each other", met("ac").circles(), 5);
        CHECK.due("two threes", met("ace", "bdf").circles(), 2);
        CHECK.due("three pairs", met("ad", "be", "cf").circles(), 3);
        CHECK.due("a row", met("ab", "bc", "cd", "de", "ef").circles(), 1);
        CHECK.due("a row told crosswise", met("af", "fb", "be", "ec", "cd").circles(), 1);
        CHECK.due("a row without its end", met("ab", "bc", "cd", "de").circles(), 2);
        CHECK.due("nobody is there", Check.canton("event e on 1 needs 1;").circles(), 0);
        CHECK.due("one is", Check.canton("person a plain lot 2;").circles(), 1);
        MistCanton x = met("ab", "bc");
        x.undo();
        CHECK.due("undone", x.circles(), 5);
    }

    private static void cover() {
        CHECK.at("promise 33");
        CHECK.due("no event", Check.canton(Cantons.of(6, 0)).cover(), 0);
        CHECK.due("nobody", Check.canton(Cantons.of(0, 5)).cover(), 0);
        CHECK.due("all to all, the least", Check.canton(Cantons.FULL).cover(), 1);
        CHECK.due("each to one", met("a", "b", "c", "d", "e").cover(), 31);
        CHECK.due("but one", met("a", "b", "c", "d", "ae").cover(), 30);
        CHECK.due("the last alone", met("a", "b", "c", "d", "abcd").cover(), 16);
        CHECK.due("two of five", met("ab", "abc", "cd", "def", "ef").cover(), 10);
        CHECK.due("of equal ones the least", met("ab", "cd", "abc", "d", "ab").cover(), 3);
        CHECK.due("three", met("ab", "cd", "ef", "ac", "bd").cover(), 7);
        CHECK.due("two that are told late", met("a", "b", "c", "abc", "def").cover(), 24);
        CHECK.due("who is to come to none is none of it", met("ab", "b").cover(), 1);
        CHECK.due("an empty event", met("", "ab").cover(), 2);
    }

    private static void shared() {
        CHECK.at("promise 34");
        MistCanton x = met("ab", "bc", "abc", "f", "af");
        int[][] due = {{21, 5, 4, 0, 0, 16}, {5, 7, 6, 0, 0, 0}, {4, 6, 6, 0, 0, 0}, {0, 0, 0, 0, 0, 0}, {0, 0, 0, 0, 0, 0},
                {16, 0, 0, 0, 0, 24}};
        for (int p = 0; p < 6; p++) {
            for (int other = 0; other < 6; other++) {
                CHECK.due("shared(" + p + ", " + other + ")", x.shared(p, other), due[p][other]);
            }
        }
        CHECK.due("all five", Check.canton(Cantons.FULL).shared(0, 5), 31);
    }

    private static String rests(MistCanton x, int lose, int early, int late, int what) {
        try {
            return Integer.toString(x.rests(lose, early, late, what));
        } catch (NoSuchElementException e) {
            return "none";
        }
    }

    /** Who goes alone would not go with the other one and the other way round; so these two rest by all stakes. */
    private static void wells() {
        CHECK.at("promise 42");
        for (int lose = 0; lose <= 9; lose++) {
            for (int early = 0; early <= 9; early++) {
                MistCanton x = new MistCanton();
                for (int late = 0; late <= 9; late++) {
                    List<String> due = new ArrayList<>(List.of("1", "2"));
                    if (early == 0) {
                        due.add(0, "0");
                    }
                    if (lose == 0 && late == 0) {
                        due.add("3");
                    }
                    String well = "rests(" + lose + ", " + early + ", " + late + ", ";
                    CHECK.due(well + "-1)", rests(x, lose, early, late, -1), Integer.toString(due.size()));
                    due.add("none");
                    for (int i = 0; i < due.size(); i++) {
                        CHECK.due(well + i + ")", rests(x, lose, early, late, i), due.get(i));
                    }
                    CHECK.due(well + "-2)", rests(x, lose, early, late, -2), "none");
                    CHECK.due(well + "4)", rests(x, lose, early, late, 4), "none");
                }
            }
        }
    }

    public static void main(String[] args) {
        through();
        wedded();
        circles();
        cover();
        shared();
        wells();
        CHECK.end();
    }
}
