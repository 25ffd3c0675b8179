/** Promises 12 to 18, 29, 35, 37 to 39, 41 and 43: days going by. */
public final class AheadTest {
    private static final Check CHECK = new Check();
    private static final MistCanton X = Check.canton(Cantons.KINDS);

    private static MistCanton after(String canton, int days) {
        MistCanton x = Check.canton(canton);
        for (int d = 0; d < days; d++) {
            x.day();
        }
        return x;
    }

    private static void attends() {
        CHECK.at("promise 12");
        int[] days = {1, 2, 6, 7, 13, 14, 35, 56, 60};
        int[] mass = {0, 0, 2, 11, 2, 11, 11, 11, 0};
        int[] fair = {2, 4, 0, 0, 0, 2, 0, 2, 0};
        for (int i = 0; i < days.length; i++) {
            CHECK.due("mass in " + days[i], X.attends(0, days[i]), mass[i]);
            CHECK.due("fair in " + days[i], X.attends(1, days[i]), fair[i]);
        }
        CHECK.due("from day 3", after(Cantons.KINDS, 3).attends(0, 4), 11);
        for (int[] a : new int[][] {{-1, 1}, {2, 1}, {0, 0}, {0, 61}, {0, -1}}) {
            CHECK.due("attends(" + a[0] + ", " + a[1] + ")", X.attends(a[0], a[1]), -1);
        }
    }

    private static void next() {
        CHECK.at("promise 13");
        int[][] due = {{7, -1}, {6, 1}, {-1, 2}, {7, -1}};
        for (int p = 0; p < 4; p++) {
            for (int e = 0; e < 2; e++) {
                CHECK.due("next(" + p + ", " + e + ")", X.next(p, e), due[p][e]);
            }
        }
        CHECK.due("on the day itself it is the next time", after(Cantons.KINDS, 6).next(1, 0), 1);
        CHECK.due("from a day on which one came", after(Cantons.KINDS, 7).next(0, 0), 7);
        CHECK.due("in 60", Check.canton("person p plain lot 2;event e on 4 needs 1;comes p e;goes week=8;").next(0, 0), 60);
        CHECK.due("not in 61", Check.canton("person p plain lot 2;event e on 5 needs 1;comes p e;goes week=8;").next(0, 0), -1);
        for (int[] a : new int[][] {{-1, 0}, {4, 0}, {0, -1}, {0, 2}}) {
            CHECK.due("next(" + a[0] + ", " + a[1] + ")", X.next(a[0], a[1]), -1);
        }
    }

    private static void quorumHeldLast() {
        CHECK.at("promises 14, 15, 39");
        CHECK.due("quorum of mass", X.quorum(0), 7);
        CHECK.due("quorum of fair", X.quorum(1), -1);
        CHECK.due("from day 7", after(Cantons.KINDS, 7).quorum(0), 7);
        MistCanton late = Check.canton("person p plain lot 2;event e on 4 needs 1;event f on 5 needs 1;comes p e;comes p f;"
                + "goes week=8;");
        CHECK.due("in 60", late.quorum(0), 60);
        CHECK.due("not by 60", late.quorum(1), -1);
        CHECK.due("the last in 60", late.last(0), 60);
        CHECK.due("the last not by 60", late.last(1), -1);
        int[] days = {1, 6, 7, 13, 14, 60};
        int[] times = {0, 0, 1, 1, 2, 8};
        for (int i = 0; i < days.length; i++) {
            CHECK.due("held in " + days[i], X.held(0, days[i]), times[i]);
        }
        CHECK.due("those of before do not count", after(Cantons.KINDS, 14).held(0, 7), 1);
        CHECK.due("the last", X.last(0), 56);
        CHECK.due("no last", X.last(1), -1);
        CHECK.due("the last from day 1", after(Cantons.KINDS, 1).last(0), 55);
        for (int e : new int[] {-1, 2, Integer.MIN_VALUE}) {
            CHECK.due("quorum(" + e + ")", X.quorum(e), -1);
            CHECK.due("held(" + e + ", 1)", X.held(e, 1), -1);
            CHECK.due("last(" + e + ")", X.last(e), -1);
        }
        CHECK.due("held(0, 0)", X.held(0, 0), -1);
        CHECK.due("held(0, 61)", X.held(0, 61), -1);
    }

    private static void meet() {
        CHECK.at("promise 16");
        CHECK.due("ann and bob", X.meet(0, 1), 7);
        CHECK.due("dan and ann", X.meet(3, 0), 7);
        CHECK.due("bob and cid", X.meet(1, 2), -1);
        CHECK.due("they have", after(Cantons.KINDS, 7).meet(1, 0), 0);
        CHECK.due("without a quorum", Check.canton(Cantons.CHAIN).meet(2, 3), 3);
        CHECK.due("the same", X.meet(1, 1), -1);
        String late = "person p plain lot 2;person q plain lot 2;event e on %d needs 1;comes p e;comes q e;goes week=8;";
        CHECK.due("in 60", Check.canton(String.format(late, 4)).meet(0, 1), 60);
        CHECK.due("not by 60", Check.canton(String.format(late, 5)).meet(0, 1), -1);
        for (int[] a : new int[][] {{-1, 0}, {4, 0}, {0, -1}, {0, 4}, {-1, -1}}) {
            CHECK.due("meet(" + a[0] + ", " + a[1] + ")", X.meet(a[0], a[1]), -1);
        }
    }

    private static void idleBusyFamily() {
        CHECK.at("promises 17, 18, 29");
        int[] days = {1, 2, 3, 5, 7, 60};
        int[] idle = {0, 0, 1, 3, 3, 26};
        for (int i = 0; i < days.length; i++) {
            CHECK.due("idle(" + days[i] + ")", X.idle(days[i]), idle[i]);
        }
        CHECK.due("idle(0)", X.idle(0), -1);
        CHECK.due("idle(61)", X.idle(61), -1);
        CHECK.due("nobody at all", new MistCanton().idle(60), 60);
        CHECK.due("busy", X.busy(), 7);
        CHECK.due("busy from day 5", after(Cantons.KINDS, 5).busy(), 2);
        CHECK.due("of equal ones the first", Check.canton(Cantons.CHAIN).busy(), 1);
        CHECK.due("from day 1", after(Cantons.CHAIN, 1).busy(), 1);
        CHECK.due("to each event", Check.canton("person a plain lot 2;person b plain lot 2;event x on 1 needs 1;"
                + "event y on 2 needs 1;event z on 2 needs 1;comes a x;comes a y;comes a z;").busy(), 2);
        CHECK.due("one alone", Check.canton("person a plain lot 2;event x on 3 needs 6;comes a x;").busy(), 3);
        CHECK.due("nobody comes", Check.canton(Cantons.CHAIN + "goes 0;").busy(), -1);
        CHECK.due("family of mass", X.family(0), 2);
        CHECK.due("family of fair", X.family(1), 2);
        CHECK.due("from day 7 on", after(Cantons.KINDS, 7).family(1), 3);
        CHECK.due("nobody's", Check.canton("event e on 0 needs 1;").family(0), 0);
        CHECK.due("family(-1)", X.family(-1), -1);
        CHECK.due("family(2)", X.family(2), -1);
    }

    private static void lonelyAndTwins() {
        CHECK.at("promises 35, 38");
        CHECK.due("lonely", X.lonely(), 4);
        CHECK.due("lonely in the chain", Check.canton(Cantons.CHAIN).lonely(), 16);
        CHECK.due("who never go out", Check.canton(Cantons.CHAIN + "goes 0;").lonely(), 31);
        CHECK.due("who have met are not", after(Cantons.CHAIN + "goes week=0 and met=0;", 5).lonely(), 16);
        CHECK.due("twins", X.twins(), 1);
        CHECK.due("none", Check.canton(Cantons.CHAIN).twins(), 0);
        CHECK.due("who come to nothing are alike", Check.canton(Cantons.CHAIN + "goes 0;").twins(), 10);
        CHECK.due("one day apart", Check.canton(Cantons.TWO).twins(), 0);
        MistCanton asked = Check.canton(Cantons.TWO);
        asked.ask(1);
        CHECK.due("told anew", asked.twins(), 1);
        String late = "person p plain lot 2;person q plain lot 2;event e on %d needs 1;comes p e;comes q e;goes week=8;";
        CHECK.due("who meet in 60", Check.canton(String.format(late, 4)).lonely(), 0);
        CHECK.due("who meet in 61", Check.canton(String.format(late, 5)).lonely(), 3);
        String one = "person p plain lot 2;person q plain lot 2;event e on %d needs 1;comes p e;goes week=%d;";
        CHECK.due("they part on day 1", Check.canton(String.format(one, 1, 0)).twins(), 0);
        CHECK.due("they part on day 28", Check.canton(String.format(one, 0, 4)).twins(), 0);
        CHECK.due("they part on day 29", Check.canton(String.format(one, 1, 4)).twins(), 1);
        CHECK.due("day 1 has been", after(String.format(one, 1, 0), 1).twins(), 1);
        CHECK.due("the same day, another event", Check.canton("person p plain lot 2;person q plain lot 2;"
                + "event e on 1 needs 1;event f on 1 needs 1;comes p e;comes q f;").twins(), 0);
        CHECK.due("nobody", new MistCanton().twins() + new MistCanton().lonely(), 0);
    }

    private static void move() {
        CHECK.at("promise 37");
        CHECK.due("never held", X.move(1), 0);
        CHECK.due("equal ones", Check.canton(Cantons.TWO).move(0), 0);
        CHECK.due("where it snows most", Check.canton(Cantons.TWO + "snow 5 12 20;").move(0), 5);
        CHECK.due("equal snows", Check.canton(Cantons.TWO + "snow 6 12 20 19;").move(0), 5);
        CHECK.due("where thieves are", Check.canton("person a thief lot 2;person b plain lot 2;event e on 0 needs 2;"
                + "comes a e;comes b e;").move(0), 1);
        MistCanton x = Check.canton(Cantons.TWO + "snow 5;");
        CHECK.due("moved", x.move(0), 5);
        CHECK.due("it is where it was", x.event(0, 0), 0);
        CHECK.due("and not held", x.quorum(0), -1);
        CHECK.due("move(-1)", x.move(-1), -1);
        CHECK.due("move(1)", x.move(1), -1);
    }

    private static void chance() {
        CHECK.at("promise 41");
        String three = "person a plain lot 2;person b plain lot 3;person c plain lot 4;event e on 3 needs 1;comes a e;"
                + "comes b e;comes c e;snow 1 2 3;goes not white;";
        int[] due = {100000, 190000, 271000, 271000, 271000, 271000};
        for (int d = 1; d <= 6; d++) {
            CHECK.due("in " + d, Check.canton(three).chance(0, d, 9), due[d - 1]);
        }
        CHECK.due("surely", Check.canton(three).chance(0, 1, 0), 1000000);
        CHECK.due("never", Check.canton(three).chance(0, 6, 10), 0);
        MistCanton two = Check.canton(Cantons.TWO.replace("on 0", "on 3"));
        CHECK.due("not in two", two.chance(0, 2, 7), 0);
        CHECK.due("in three", two.chance(0, 3, 7), 700000);
        CHECK.due("in six", two.chance(0, 6, 1), 100000);
        MistCanton weekdays = Check.canton("person a plain lot 2;event e on 1 needs 1;event f on 6 needs 1;comes a e;"
                + "goes white;");
        CHECK.due("white", weekdays.chance(0, 1, 3), 300000);
        CHECK.due("nobody", weekdays.chance(1, 6, 5), 0);
        CHECK.due("nothing is done by it", weekdays.count(2), 0);
        int[][] others = {{-1, 1, 1}, {2, 1, 1}, {0, 0, 1}, {0, 7, 1}, {0, 1, -1}, {0, 1, 11}};
        for (int[] a : others) {
            CHECK.due("chance(" + a[0] + ", " + a[1] + ", " + a[2] + ")", weekdays.chance(a[0], a[1], a[2]), -1);
        }
    }

    // By seed 1 the draws are 16838, 5758, 10113, 17515, 31051, 5627, 23010, 7419, 16212, 4086, 2749, 12767:
    // nothing on days 1 to 3, b asks on day 4, nothing on day 5, b's lot is 2 on days 6 and 7.
    private static void years() {
        CHECK.at("promise 43");
        MistCanton x = Check.canton(Cantons.TWO);
        int[][] due = {{3, 0, 0, 0}, {4, 0, 0, 1}, {6, 0, 0, 1}, {7, 1, 1, 1}};
        for (int[] row : due) {
            for (int what = 0; what < 3; what++) {
                CHECK.due("years(1, " + row[0] + ", " + what + ")", x.years(1, row[0], what), row[what + 1]);
            }
        }
        CHECK.due("all is as ahead then", x.count(2) + x.count(7) + x.count(6), 0);
        CHECK.due("the lot too", x.person(1, 1), 3);
        x.ask(0);
        x.ask(1);
        CHECK.due("crimes from now on", x.years(1, 4, 2), 3);
        for (int d = 0; d < 7; d++) {
            x.day();
        }
        CHECK.due("held by these alone", x.years(1, 1, 0), 0);
        CHECK.due("pairs at last", x.years(1, 1, 1), 1);
        CHECK.due("nobody", new MistCanton().years(5, 99, 2), 0);
        int[][] others = {{-1, 1, 0}, {10000, 1, 0}, {1, 0, 0}, {1, 100, 0}, {1, 1, -1}, {1, 1, 3}};
        for (int[] a : others) {
            CHECK.due("years(" + a[0] + ", " + a[1] + ", " + a[2] + ")", x.years(a[0], a[1], a[2]), -1);
        }
        CHECK.due("the greatest seed is one", x.years(9999, 99, 1) != -1, true);
        CHECK.due("the least one too", x.years(0, 1, 1), 1);
        CHECK.due("one alone has draws", Check.canton("person a plain lot 2;").years(1, 4, 2), 1);
    }

    public static void main(String[] args) {
        attends();
        next();
        quorumHeldLast();
        meet();
        idleBusyFamily();
        lonelyAndTwins();
        move();
        chance();
        years();
        CHECK.at("all of these");
        CHECK.due("the day is as it was", X.count(2), 0);
        CHECK.due("nothing is to undo", X.count(10), 0);
        CHECK.end();
    }
}
