/** Promises 1, 5 to 11, 44 and 45: what there is, and weeks by hand. */
public final class HandTest {
    private static final Check CHECK = new Check();

    private static void counts(String when, MistCanton x, int... due) {
        for (int what = 0; what < due.length; what++) {
            CHECK.due(when + ", count(" + what + ")", x.count(what), due[what]);
        }
    }

    private static void days(MistCanton x, int days) {
        for (int d = 0; d < days; d++) {
            x.day();
        }
    }

    private static void newObject() {
        CHECK.at("promise 1");
        MistCanton x = new MistCanton();
        counts("at first", x, 0, 0, 0, 0, 0, 0, 0, 0, 0, 0, 0, 0);
        CHECK.due("no person", x.person(0, 0), -2);
        CHECK.due("no event", x.event(0, 0), -2);
        CHECK.due("nothing to undo", x.undo(), false);
        CHECK.due("no week", x.judged(2), 0);
        CHECK.due("no mark", x.mark(3, true), false);
        CHECK.due("a mark can be laid", x.mark(3, false), true);
        CHECK.due("a day", x.day(), 0);
        CHECK.due("gone back to", x.mark(3, true), true);
        counts("then", x, 0, 0, 0, 0, 0, 0, 0, 0, 0, 0, 0, 0);
    }

    private static void persons() {
        CHECK.at("promise 5");
        MistCanton x = Check.canton(Cantons.KINDS);
        int[][] due = {{0, 2, 0, 1, 0}, {1, 3, 1, 3, 0}, {2, 1, 6, 3, 0}, {3, 4, 0, 1, 0}};
        for (int p = 0; p < 4; p++) {
            for (int what = 0; what < 5; what++) {
                CHECK.due("person(" + p + ", " + what + ")", x.person(p, what), due[p][what]);
            }
        }
        days(x, 6);
        CHECK.due("it is day 0 to a widow on day 6", x.person(1, 2), 0);
        CHECK.due("it is day 5 to a thief on day 6", x.person(2, 2), 5);
        days(x, 1);
        CHECK.due("as it is where it snows", x.person(1, 2) + x.person(2, 2), 0);
        CHECK.due("ann has met", x.person(0, 4), 10);
        CHECK.due("bob has met", x.person(1, 4), 9);
        CHECK.due("cid has met", x.person(2, 4), 0);
        x.lot(3, 0);
        x.lot(0, 0);
        days(x, 1);
        CHECK.due("a gaoler is never wrong", x.person(3, 2), 1);
        CHECK.due("round the week", x.person(0, 2), 6);
        CHECK.due("a gaoler has a lot", x.person(3, 1), 0);
        for (int[] a : new int[][] {{-1, 0}, {4, 0}, {0, -1}, {0, 5}, {Integer.MIN_VALUE, 1}, {1, Integer.MAX_VALUE}}) {
            CHECK.due("person(" + a[0] + ", " + a[1] + ")", x.person(a[0], a[1]), -2);
        }
    }

    private static void events() {
        CHECK.at("promise 6");
        MistCanton x = Check.canton("snow 0;" + Cantons.KINDS.replace("snow 7;", ""));
        int[][] due = {{0, 3, 15, 0, 0}, {1, 2, 6, 0, 0}};
        for (int e = 0; e < 2; e++) {
            for (int what = 0; what < 5; what++) {
                CHECK.due("event(" + e + ", " + what + ")", x.event(e, what), due[e][what]);
            }
        }
        days(x, 14);
        CHECK.due("held twice", x.event(0, 3), 2);
        CHECK.due("who came", x.event(0, 4), 11);
        CHECK.due("a widow came to the other one too", x.event(1, 4), 2);
        x.lot(0, 0);
        CHECK.due("who came is not told anew", x.event(0, 4), 11);
        x.day();
        CHECK.due("nobody came to mass", x.event(0, 4), 0);
        for (int[] a : new int[][] {{-1, 0}, {2, 0}, {0, -1}, {0, 5}, {Integer.MAX_VALUE, 4}}) {
            CHECK.due("event(" + a[0] + ", " + a[1] + ")", x.event(a[0], a[1]), -2);
        }
    }

    private static void dayByDay() {
        CHECK.at("promise 7");
        MistCanton x = Check.canton(Cantons.KINDS);
        int[] mass = {0, 0, 0, 0, 0, 2, 11, 0, 0, 0, 0, 0, 2, 11};
        int[] fair = {2, 4, 0, 0, 0, 0, 0, 2, 4, 0, 0, 0, 0, 2};
        for (int d = 0; d < 14; d++) {
            CHECK.due("day " + (d + 1), x.day(), mass[d] == 11 ? 1 : 0);
            CHECK.due("mass on day " + (d + 1), x.event(0, 4), mass[d]);
            CHECK.due("fair on day " + (d + 1), x.event(1, 4), fair[d]);
        }
        MistCanton y = Check.canton(Cantons.CHAIN);
        CHECK.due("x is held", y.day(), 1);
        CHECK.due("y is held", y.day(), 2);
        CHECK.due("z is not held", y.day(), 0);
        CHECK.due("they have met all the same", y.person(3, 4), 4);
        MistCanton z = Check.canton("person a plain lot 2;event p on 1 needs 1;event q on 1 needs 1;event r on 1 needs 2;"
                + "comes a p;comes a q;comes a r;");
        CHECK.due("two are held", z.day(), 3);
    }

    private static int comesOn(String person, String law) {
        return Check.canton("person p " + person + ";event e on 0 needs 1;comes p e;snow 14;goes " + law + ";").next(0, 0);
    }

    private static void laws() {
        CHECK.at("promises 3 and 7, goes");
        String[] so = {"1", "9999", "0-1", "not 0", "not not 7", "1<2", "not(2<1)", "2=2", "2+3*4=14", "2*3-1=5",
                "1-2-3=0-4", "1-(2-3)=2", "0 and 0 or 1", "1 or 1 and 1", "(2 and 4)=1", "(0 or 4)=1", "(not 3)=0", "(not 0)=1",
                "not 3=0", "9999*9999*9999<0", "off=1", "week=0", "met=0", "white=0",
                "(1<2)<2", "(1<2)+(2=2)=2", "((((1))))", "not not not not 1", "0<1 and 1<2 and 2<3"};
        for (String law : so) {
            CHECK.due("goes " + law, comesOn("plain lot 3", law), 6);
        }
        String[] notSo = {"0", "1-1", "not 1", "not 2", "2<2", "2<1", "1=2", "1 or 1 and 0", "1 and 0", "0 or 0",
                "1-2-3=2", "white*off"};
        for (String law : notSo) {
            CHECK.due("goes " + law, Check.canton("person p plain lot 3;event e on 0 needs 1;comes p e;goes " + law + ";")
                    .next(0, 0), -1);
        }
        CHECK.due("a gaoler's off", comesOn("gaoler lot 4", "off=0"), 7);
        CHECK.due("off where it snows", comesOn("plain lot 3", "off=1 and white"), 14);
        CHECK.due("white is 1", comesOn("plain lot 3", "white=1"), 14);
        CHECK.due("off is told", comesOn("plain lot 0", "off=0-2"), 2);
        CHECK.due("a week has passed on day 7", comesOn("plain lot 2", "week=1"), 7);
        CHECK.due("not on day 6", comesOn("plain lot 3", "week=1"), 13);
        CHECK.due("two weeks on day 14", comesOn("plain lot 2", "week=2"), 14);
        MistCanton x = Check.canton("person a plain lot 2;person b plain lot 2;event e on 1 needs 1;comes a e;comes b e;"
                + "goes met=0;");
        CHECK.due("both go before they have met", x.attends(0, 1), 3);
        CHECK.due("and then never", x.held(0, 60), 1);
    }

    private static void lotsToldAnew() {
        CHECK.at("promise 8");
        MistCanton x = Check.canton(Cantons.KINDS);
        CHECK.due("the lot ahead", x.lot(1, 0), 3);
        CHECK.due("the lot then", x.lot(1, 4), 0);
        CHECK.due("the same one", x.lot(1, 4), 4);
        CHECK.due("a gaoler's", x.lot(3, 1), 4);
        CHECK.due("all can be undone", x.count(10), 4);
        CHECK.due("its day", x.person(1, 2), 2);
        for (int[] a : new int[][] {{-1, 0}, {4, 0}, {0, -1}, {0, 5}}) {
            CHECK.due("lot(" + a[0] + ", " + a[1] + ")", x.lot(a[0], a[1]), -1);
        }
        CHECK.due("others are nothing to undo", x.count(10), 4);
        CHECK.due("no crime", x.count(7), 0);
    }

    private static void asking() {
        CHECK.at("promise 9");
        MistCanton x = Check.canton(Cantons.KINDS);
        CHECK.due("a crime", x.ask(1), 1);
        CHECK.due("the lot", x.person(1, 1), 2);
        CHECK.due("it was 2 already", x.ask(0), 2);
        CHECK.due("a gaoler's", x.ask(3), 3);
        CHECK.due("its lot", x.person(3, 1), 2);
        CHECK.due("below", x.ask(-1), -1);
        CHECK.due("beyond", x.ask(4), -1);
        CHECK.due("crimes", x.count(7), 3);
        CHECK.due("to undo", x.count(10), 3);
    }

    private static void undoing() {
        CHECK.at("promise 10");
        MistCanton x = Check.canton(Cantons.KINDS);
        days(x, 7);
        x.ask(1);
        x.lot(0, 4);
        x.day();
        CHECK.due("the day", x.undo(), true);
        counts("behind one", x, 4, 2, 7, 0, 1, 1, 3, 1, 0, 0, 9);
        CHECK.due("who came on it", x.event(0, 4), 11);
        CHECK.due("the lot", x.undo(), true);
        CHECK.due("is as it was", x.person(0, 1), 2);
        CHECK.due("the asking", x.undo(), true);
        CHECK.due("no crime", x.count(7), 0);
        CHECK.due("bob's lot", x.person(1, 1), 3);
        CHECK.due("the snow day", x.undo(), true);
        counts("behind four", x, 4, 2, 6, 6, 0, 0, 0, 0, 0, 0, 6);
        CHECK.due("held", x.event(0, 3), 0);
        CHECK.due("who came", x.event(0, 4), 2);
        x.see(0, 1, true);
        x.undo();
        CHECK.due("what is seen stays", x.count(9), 1);

        MistCanton y = Check.canton(Cantons.KINDS);
        days(y, 20);
        CHECK.due("the last 16", y.count(10), 16);
        for (int i = 0; i < 16; i++) {
            CHECK.due("undo " + i, y.undo(), true);
            CHECK.due("day", y.count(2), 19 - i);
        }
        CHECK.due("no more", y.undo(), false);
        CHECK.due("day 4", y.count(2), 4);
        CHECK.due("a day again", y.day(), 0);
        CHECK.due("one to undo", y.count(10), 1);
    }

    private static void judging() {
        CHECK.at("promise 11");
        MistCanton x = Check.canton(Cantons.CHAIN);
        CHECK.due("no week", x.judged(0), -1);
        CHECK.due("a week", Check.week(x, "lot a 4;ask a;day;day;day;"), 0);
        CHECK.due("the first held", x.judged(0), 2);
        CHECK.due("the first met", x.judged(1), 2);
        CHECK.due("held", x.judged(2), 2);
        Check.week(x, "lot a 0;lot b 1;lot c 1;day;day;day;");
        CHECK.due("b to x and c to nothing on day 2", x.judged(0), 4);
        CHECK.due("a and b, b and c meet on day 3", x.judged(1), 5);
        CHECK.due("on day 3 x, y are held", x.judged(2), 3);
        x.lot(0, 0);
        x.ask(3);
        days(x, 12);
        CHECK.due("from the begin, whatever was done", x.judged(0), 4);
        CHECK.due("met, likewise", x.judged(1), 5);
        CHECK.due("nothing is done by it", x.count(2), 12);
        CHECK.due("below", x.judged(-1), -2);
        CHECK.due("beyond", x.judged(3), -2);
        Check.week(x, "ask a;");
        CHECK.due("never held", x.judged(0), -1);
        CHECK.due("never met", x.judged(1), -1);
        CHECK.due("nothing held", x.judged(2), 0);
        CHECK.due("an empty week", Check.week(x, ""), 0);
        CHECK.due("its lines", x.count(8), 0);
    }

    private static void marks() {
        CHECK.at("promise 44");
        MistCanton x = Check.canton(Cantons.KINDS);
        CHECK.due("nothing is on it", x.mark(0, true), false);
        days(x, 7);
        x.ask(1);
        x.see(0, 7, false);
        CHECK.due("laid", x.mark(0, false), true);
        CHECK.due("to undo as before", x.count(10), 8);
        x.day();
        x.lot(2, 4);
        x.see(1, 3, false);
        x.ask(0);
        CHECK.due("another one", x.mark(3, false), true);
        CHECK.due("back", x.mark(0, true), true);
        counts("back", x, 4, 2, 7, 0, 1, 1, 3, 1, 0, 1, 0, 0);
        CHECK.due("lots", x.person(2, 1), 1);
        CHECK.due("bob's", x.person(1, 1), 2);
        CHECK.due("who came", x.event(0, 4), 11);
        CHECK.due("seen", x.lots(), 27);
        CHECK.due("nothing to undo", x.undo(), false);
        x.day();
        CHECK.due("back again", x.mark(0, true), true);
        CHECK.due("the day", x.count(2), 7);
        CHECK.due("and to the other one", x.mark(3, true), true);
        counts("there", x, 4, 2, 8, 1, 0, 1, 3, 2, 0, 2, 0, 0);
        CHECK.due("laid anew", x.mark(0, false), true);
        x.day();
        x.mark(0, true);
        CHECK.due("holds the later day", x.count(2), 8);
        CHECK.due("below", x.mark(-1, false), false);
        CHECK.due("beyond", x.mark(4, false), false);
        CHECK.due("beyond, back", x.mark(4, true), false);
        CHECK.due("not laid", x.mark(1, true), false);
    }

    private static void counting() {
        CHECK.at("promise 45");
        MistCanton x = Check.canton(Cantons.KINDS);
        Check.week(x, "day;ask ann;");
        Check.feed(x, "abc");
        days(x, 7);
        x.ask(0);
        x.see(1, 1, true);
        counts("all", x, 4, 2, 7, 0, 1, 1, 3, 1, 2, 1, 8, 3);
        days(x, 28);
        counts("four weeks on it snows again", x, 4, 2, 35, 0, 1, 5, 3, 1, 2, 1, 16, 3);
        CHECK.due("below", x.count(-1), -1);
        CHECK.due("beyond", x.count(12), -1);
        CHECK.due("snow on day 0", Check.canton("snow 0;").count(4), 1);
    }

    public static void main(String[] args) {
        newObject();
        persons();
        events();
        dayByDay();
        laws();
        lotsToldAnew();
        asking();
        undoing();
        judging();
        marks();
        counting();
        CHECK.end();
    }
}
