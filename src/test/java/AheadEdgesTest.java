/** Promises 12 to 18, 29, 35, 37 to 39, 41 and 43 on both sides of each bound that the document tells. */
public final class AheadEdgesTest {
    private static final Check CHECK = new Check();

    private static MistCanton after(String canton, int days) {
        MistCanton x = Check.canton(canton);
        for (int d = 0; d < days; d++) {
            x.day();
        }
        return x;
    }

    /** Two who come, together and on this day alone, to an event that needs them both. */
    private static String onDay(int day) {
        return "person a plain lot 2;person b plain lot 2;event e on " + day % 7 + " needs 2;comes a e;comes b e;snow "
                + day % 28 + ";goes white and week=" + day / 7 + ";";
    }

    private static void sixty() {
        CHECK.at("promises 12 to 16, 35 and 39, in 60 days");
        for (int begin : new int[] {0, 1, 5}) {
            for (int in : new int[] {1, 2, 7, 28, 59, 60, 61, 62}) {
                MistCanton x = after(onDay(begin + in), begin);
                boolean by = in <= 60;
                String when = "in " + in + " days from day " + begin + ", ";
                CHECK.due(when + "next", x.next(1, 0), by ? in : -1);
                CHECK.due(when + "quorum", x.quorum(0), by ? in : -1);
                CHECK.due(when + "last", x.last(0), by ? in : -1);
                CHECK.due(when + "meet", x.meet(1, 0), by ? in : -1);
                CHECK.due(when + "lonely", x.lonely(), by ? 0 : 3);
                CHECK.due(when + "idle", x.idle(60), by ? 59 : 60);
                CHECK.due(when + "held", x.held(0, 60), by ? 1 : 0);
                if (by) {
                    CHECK.due(when + "attends", x.attends(0, in), 3);
                    CHECK.due(when + "held by then", x.held(0, in), 1);
                    CHECK.due(when + "idle by then", x.idle(in), in - 1);
                }
                if (in > 1 && in <= 61) {
                    CHECK.due(when + "attends before", x.attends(0, in - 1), 0);
                    CHECK.due(when + "held before", x.held(0, in - 1), 0);
                    CHECK.due(when + "idle before", x.idle(in - 1), in - 1);
                }
            }
        }
    }

    private static void today() {
        CHECK.at("promises 12 to 18, 29, 35 and 39, the day that is");
        MistCanton x = after(onDay(3), 3);
        CHECK.due("held on it", x.event(0, 3), 1);
        CHECK.due("next", x.next(0, 0), -1);
        CHECK.due("quorum", x.quorum(0), -1);
        CHECK.due("last", x.last(0), -1);
        CHECK.due("held", x.held(0, 60), 0);
        CHECK.due("meet: they have", x.meet(0, 1), 0);
        CHECK.due("idle", x.idle(60), 60);
        CHECK.due("busy", x.busy(), -1);
        CHECK.due("family", x.family(0), 0);
        CHECK.due("lonely: they have met", x.lonely(), 0);
        x.undo();
        CHECK.due("meet: they have not", x.meet(0, 1), 1);
        CHECK.due("next, undone", x.next(0, 0), 1);
        MistCanton y = Check.canton(onDay(0));
        CHECK.due("day 0 has been", y.next(0, 0), -1);
        CHECK.due("and nobody came", y.meet(0, 1), -1);
    }

    private static void lastOfMany() {
        CHECK.at("promise 39");
        MistCanton x = Check.canton(Cantons.FULL);
        int[] due = {57, 58, 59, 60, 54};
        for (int e = 0; e < 5; e++) {
            CHECK.due("last(" + e + ")", x.last(e), due[e]);
            CHECK.due("quorum(" + e + ")", x.quorum(e), e + 1);
            CHECK.due("held(" + e + ", 60)", x.held(e, 60), e < 4 ? 9 : 8);
        }
    }

    private static void seven() {
        CHECK.at("promises 18 and 29, seven days");
        for (int begin : new int[] {0, 3}) {
            for (int in = 1; in <= 9; in++) {
                MistCanton x = after(onDay(begin + in), begin);
                CHECK.due("busy in " + in + " from " + begin, x.busy(), in <= 7 ? in : -1);
                CHECK.due("family in " + in + " from " + begin, x.family(0), in <= 7 ? 1 : 0);
            }
        }
        String late = "person a plain lot 2;person b plain lot 2;event e on %d needs 1;event f on %d needs 1;comes a e;"
                + "comes a f;comes b f;";
        CHECK.due("one on day 3, two on day 6", Check.canton(String.format(late, 3, 6)).busy(), 6);
        CHECK.due("one on day 6, two on day 3", Check.canton(String.format(late, 6, 3)).busy(), 3);
        CHECK.due("two on day 7", Check.canton(String.format(late, 1, 0)).busy(), 7);
        String eighth = "person a plain lot 2;person b plain lot 2;person c plain lot 3;event e on 1 needs 1;event f on 3 needs 1;"
                + "comes a e;comes b e;comes c f;snow 8;goes white or off=1;";
        CHECK.due("one on day 2, two on day 8", Check.canton(eighth).busy(), 2);
        CHECK.due("from day 1 the eighth is the seventh", after(eighth, 1).busy(), 7);
        CHECK.due("equal ones", Check.canton(Cantons.FULL).busy(), 1);
        CHECK.due("equal ones from day 1", after(Cantons.FULL, 1).busy(), 1);
        CHECK.due("equal ones from day 5", after(Cantons.FULL, 5).busy(), 3);
        String all = "person a plain lot 0;person b plain lot 1;person c plain lot 2;person d plain lot 3;person f plain lot 4;"
                + "event e on 3 needs 6;comes a e;comes b e;comes c e;comes d e;comes f e;";
        CHECK.due("five days", Check.canton(all).family(0), 5);
        CHECK.due("widows take six", Check.canton(all.replace("a plain lot 0", "a widow lot 0")).family(0), 6);
        CHECK.due("where it snows on its day", Check.canton(all + "snow 3;").family(0), 5);
        CHECK.due("where it snows on all but its day", Check.canton(all + "snow 1 2 4 5;").family(0), 1);
        CHECK.due("the fifth event", Check.canton(Cantons.FULL).family(4), 1);
        MistCanton fifth = Check.canton(Cantons.of(0, 5) + "person a plain lot 2;comes a t;");
        CHECK.due("to the fifth alone, busy", fifth.busy(), 5);
        CHECK.due("to the fifth alone, idle", fifth.idle(7), 6);
    }

    private static void moved() {
        CHECK.at("promise 37");
        for (int day = 0; day <= 6; day++) {
            String text = "person a plain lot 2;event e on 1 needs 1;comes a e;snow " + (21 + day) + ";goes white;";
            CHECK.due("it snows on day " + day, Check.canton(text).move(0), day);
        }
        String far = "person a plain lot 2;event e on 1 needs 1;comes a e;snow 3;goes white and week=4;";
        CHECK.due("day 31 is not in 28 from day 2", after(far, 2).move(0), 0);
        CHECK.due("it is from day 3", after(far, 3).move(0), 3);
        CHECK.due("and from day 30", after(far, 30).move(0), 3);
        CHECK.due("but not from day 31", after(far, 31).move(0), 0);
        MistCanton x = Check.canton(Cantons.FULL);
        for (int e = 0; e < 5; e++) {
            CHECK.due("equal ones, the first", x.move(e), 0);
            CHECK.due("it is where it was", x.event(e, 0), e + 1);
        }
        // From day 0 on there are four of each day of the week in 28, whichever it is.
        CHECK.due("equal ones from day 3", after(Cantons.one(3, "1"), 3).move(0), 0);
        CHECK.due("never held", Check.canton(Cantons.one(3, "0")).move(0), 0);
        String thieves = "person a thief lot 2;person b thief lot 2;person c plain lot 2;event e on %d needs 2;comes a e;"
                + "comes b e;comes c e;";
        CHECK.due("thieves come on day 1", Check.canton(String.format(thieves, 0)).move(0), 1);
        CHECK.due("as they do", Check.canton(String.format(thieves, 1)).move(0), 1);
        // Of lots 2, 3 and 4 there are two at once on day 5 and on day 6 by snow, and never on another day.
        String snow = "person a plain lot 2;person b plain lot 3;person c plain lot 4;event e on 0 needs 2;comes a e;comes b e;"
                + "comes c e;snow %s;";
        // On a day 7, if there were one, the widow alone would come, and go on so.
        CHECK.due("no day of the week but 0 to 6", Check.canton("person a widow lot 2;person b plain lot 2;"
                + "event e on 3 needs 1;comes a e;comes b e;goes met=0;").move(0), 0);
        CHECK.due("two of day 6, one of day 5", Check.canton(String.format(snow, "5 6 13")).move(0), 6);
        CHECK.due("one of each", Check.canton(String.format(snow, "5 6")).move(0), 5);
        CHECK.due("by what is met", Check.canton("person a plain lot 2;person b plain lot 2;event e on 0 needs 1;"
                + "event f on 2 needs 1;comes a e;comes a f;comes b f;goes met=0;").move(0), 1);
    }

    private static void twins() {
        CHECK.at("promise 38");
        CHECK.due("six", Check.canton(Cantons.FULL).twins(), 15);
        CHECK.due("six who come to nothing", Check.canton(Cantons.of(6, 0)).twins(), 15);
        CHECK.due("one alone", Check.canton(Cantons.of(1, 5)).twins(), 0);
        MistCanton x = Check.canton(Cantons.FULL);
        x.lot(5, 0);
        CHECK.due("five and one", x.twins(), 10);
        x.lot(0, 0);
        CHECK.due("four and two", x.twins(), 7);
        x.undo();
        x.undo();
        CHECK.due("six again", x.twins(), 15);
        String one = "person a plain lot 2;person b plain lot 2;event e on %d needs 1;comes a e;snow %d;goes white and week=%d;";
        for (int begin : new int[] {0, 4}) {
            for (int in : new int[] {1, 2, 27, 28, 29, 30}) {
                int day = begin + in;
                MistCanton y = after(String.format(one, day % 7, day % 28, day / 7), begin);
                CHECK.due("they part in " + in + " days from " + begin, y.twins(), in <= 28 ? 0 : 1);
            }
        }
        CHECK.due("they parted on the day that is", after(String.format(one, 3, 3, 0), 3).twins(), 1);
        CHECK.due("the fifth event parts them", Check.canton(Cantons.of(2, 4) + "event t on 5 needs 1;comes a t;").twins(), 0);
    }

    private static void chances() {
        CHECK.at("promise 41");
        for (int weekday = 1; weekday <= 6; weekday++) {
            MistCanton x = Check.canton(Cantons.one(weekday, "white"));
            MistCanton dry = Check.canton(Cantons.one(weekday, "not white") + "snow 1 2 3 4 5 6;");
            for (int days = 1; days <= 6; days++) {
                for (int odds = 0; odds <= 10; odds++) {
                    String what = "day " + weekday + " in " + days + " by " + odds;
                    CHECK.due(what, x.chance(0, days, odds), weekday <= days ? 100000 * odds : 0);
                    CHECK.due(what + ", dry", dry.chance(0, days, odds), weekday <= days ? 1000000 - 100000 * odds : 0);
                }
            }
        }
        CHECK.due("day 0 has been, day 7 is too far", Check.canton(Cantons.one(0, "1")).chance(0, 6, 5), 0);
        CHECK.due("from day 1 it is in 6", after(Cantons.one(0, "white"), 1).chance(0, 6, 7), 700000);
        String each = "person a plain lot 0;person b plain lot 1;person c plain lot 2;person d plain lot 3;person f plain lot 4;"
                + "person g widow lot 0;event e on 3 needs 1;comes a e;comes b e;comes c e;comes d e;comes f e;comes g e;"
                + "goes not white;";
        int[] due = {100000, 190000, 271000, 343900, 409510, 468559};
        for (int days = 1; days <= 6; days++) {
            CHECK.due("one of " + days + " by one of ten", Check.canton(each).chance(0, days, 9), due[days - 1]);
        }
        CHECK.due("an event of which they are two short", Check.canton(Cantons.of(2, 0) + "event p on 1 needs 4;comes a p;"
                + "comes b p;").chance(0, 6, 5), 0);
        CHECK.due("the law looks at who was met", Check.canton("person a plain lot 2;person b plain lot 1;event e on 1 needs 2;"
                + "event f on 2 needs 2;comes a e;comes b e;comes a f;comes b f;goes met=0 or white=0;").chance(1, 2, 5), 250000);
    }

    private static long g;

    private static int draw(int m) {
        g = (g * 1103515245L + 12345L) & 0x7fffffffL;
        return (int) ((g >> 16) % m);
    }

    /** The crimes alone, for so many persons: lots, days and laws change nothing in the draws. */
    private static int crimes(int seed, int days, int persons) {
        g = seed;
        int crimes = 0;
        for (int d = 0; d < days; d++) {
            int act = draw(6);
            if (act < 2) {
                draw(persons);
                crimes += act;
            }
            if (act == 0) {
                draw(5);
            }
        }
        return crimes;
    }

    /** How often an event on day 1 is held for which one must be of lot 2, who begins with it. */
    private static int rightOnes(int seed, int days) {
        g = seed;
        int lot = 2;
        int held = 0;
        for (int d = 1; d <= days; d++) {
            int act = draw(6);
            if (act < 2) {
                draw(1);
                lot = act == 0 ? draw(5) : 2;
            }
            held += (d + lot + 5) % 7 == 1 && lot == 2 ? 1 : 0;
        }
        return held;
    }

    private static void years() {
        CHECK.at("promise 43");
        int[] seeds = {0, 1, 2, 77, 1234, 4999, 9998, 9999};
        for (int seed : seeds) {
            for (int persons : new int[] {1, 2, 5, 6}) {
                for (int days : new int[] {1, 2, 50, 98, 99}) {
                    CHECK.due("crimes by " + seed + " in " + days + " of " + persons,
                            Check.canton(Cantons.of(persons, 1)).years(seed, days, 2), crimes(seed, days, persons));
                }
            }
            for (int days = 1; days <= 99; days += 7) {
                CHECK.due("held by " + seed + " in " + days, Check.canton(Cantons.one(1, "off=0")).years(seed, days, 0),
                        rightOnes(seed, days));
            }
            CHECK.due("without persons", Check.canton(Cantons.of(0, 5)).years(seed, 99, 2), 0);
            CHECK.due("without events", Check.canton(Cantons.of(6, 0)).years(seed, 99, 0), 0);
        }
        MistCanton x = Check.canton(Cantons.FULL);
        String before = Snapshot.of(Check.canton(Cantons.FULL));
        for (int seed : seeds) {
            for (int what = 0; what < 3; what++) {
                x.years(seed, 99, what);
            }
        }
        CHECK.due("all is as ahead then", Snapshot.of(x), before);
        MistCanton lived = Check.canton(Cantons.FULL);
        lived.ask(0);
        for (int d = 0; d < 5; d++) {
            lived.day();
        }
        CHECK.due("held before does not count", lived.years(1, 1, 0), 0);
        CHECK.due("met before does", lived.years(1, 1, 1), 15);
        CHECK.due("crimes before do", lived.years(1, 1, 2), 1 + crimes(1, 1, 6));
    }

    public static void main(String[] args) {
        sixty();
        today();
        lastOfMany();
        seven();
        moved();
        twins();
        chances();
        years();
        CHECK.end();
    }
}
