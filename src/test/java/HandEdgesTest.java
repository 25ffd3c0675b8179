/** Promises 1, 5 to 11, 44 and 45 on both sides of each bound that the document tells. */
public final class HandEdgesTest {
    private static final Check CHECK = new Check();

    private static MistCanton after(String canton, int days) {
        MistCanton x = Check.canton(canton);
        for (int d = 0; d < days; d++) {
            x.day();
        }
        return x;
    }

    private static void newObject() {
        CHECK.at("promise 1");
        MistCanton x = new MistCanton();
        CHECK.due("all lots", x.lots(), 31);
        CHECK.due("no look", x.look(), -1);
        CHECK.due("an empty week", x.week(), 0);
        CHECK.due("as an empty canton", Snapshot.firstDifference(new MistCanton(), Check.canton("")), "");
        MistCanton y = new MistCanton();
        for (int d = 1; d <= 29; d++) {
            CHECK.due("day " + d, y.day(), 0);
        }
        CHECK.due("the day", y.count(2), 29);
        CHECK.due("of the week", y.count(3), 1);
        CHECK.due("the last 16 days", y.count(10), 16);
    }

    private static void whatDay() {
        CHECK.at("promise 5, round the week");
        String five = "";
        for (int lot = 0; lot <= 4; lot++) {
            five += "person " + "abcde".charAt(lot) + " " + (lot % 2 == 0 ? "plain" : "widow") + " lot " + lot + ";";
        }
        String canton = five + "person f gaoler lot 0;snow 0 27;";
        MistCanton x = Check.canton(canton);
        MistCanton y = Check.canton(canton);
        String[] days = {"0123456", "5601234", "6012345", "0123456", "1234560", "2345601"};
        for (int d = 0; d <= 57; d++) {
            boolean white = d % 28 == 0 || d % 28 == 27;
            CHECK.due("snow on day " + d, y.count(4), white ? 1 : 0);
            CHECK.due("day of the week of " + d, y.count(3), days[0].charAt(d % 7) - '0');
            for (int p = 0; p < 6; p++) {
                int row = white || p == 5 ? 0 : p + 1;
                CHECK.due("day " + d + " to " + p, x.person(p, 2), days[row].charAt(d % 7) - '0');
            }
            x.day();
            y.day();
        }
        x.lot(5, 4);
        CHECK.due("a gaoler's lot", x.person(5, 1), 4);
        CHECK.due("is no day", x.person(5, 2), 58 % 7);
    }

    private static void kinds() {
        CHECK.at("promise 7, kinds");
        String text = "person a plain lot %2$d;person b widow lot %2$d;person c thief lot %2$d;person d gaoler lot %2$d;"
                + "event e on %1$d needs 6;comes a e;comes b e;comes c e;comes d e;";
        for (int on = 0; on <= 6; on++) {
            for (int lot = 0; lot <= 4; lot++) {
                MistCanton x = Check.canton(String.format(text, on, lot));
                for (int d = 1; d <= 8; d++) {
                    x.day();
                    int to = (d + lot + 5) % 7;
                    int due = (to == on ? 1 : 0) | (to == on || to == (on == 6 ? 0 : on + 1) ? 2 : 0)
                            | (to == on && on == 1 ? 4 : 0) | (d % 7 == on ? 8 : 0);
                    CHECK.due("on " + on + ", lot " + lot + ", day " + d, x.event(0, 4), due);
                }
            }
        }
        String white = String.format(text, 6, 0) + "snow 6 7 8;";
        int[] due = {3, 2, 0, 0, 0, 11, 2, 0};
        MistCanton x = Check.canton(white);
        for (int d = 1; d <= 8; d++) {
            x.day();
            CHECK.due("where it snows on day " + d, x.event(0, 4), due[d - 1]);
        }
    }

    private static void needs() {
        CHECK.at("promise 7, needs");
        for (int needs = 1; needs <= 6; needs++) {
            for (int come = 0; come <= 6; come++) {
                StringBuilder text = new StringBuilder(Cantons.of(6, 0) + "event v on 1 needs " + needs + ";");
                for (int p = 0; p < come; p++) {
                    text.append("comes ").append((char) ('a' + p)).append(" v;");
                }
                MistCanton x = Check.canton(text.toString());
                CHECK.due(come + " where it needs " + needs, x.day(), come >= needs ? 1 : 0);
                CHECK.due("held", x.event(0, 3), come >= needs ? 1 : 0);
                CHECK.due("held in all", x.count(5), come >= needs ? 1 : 0);
                CHECK.due("who came", x.event(0, 4), (1 << come) - 1);
                CHECK.due("pairs, held or not", x.count(6), come * (come - 1) / 2);
                for (int p = 0; p < 6; p++) {
                    CHECK.due("met by " + p, x.person(p, 4), p < come ? (1 << come) - 1 - (1 << p) : 0);
                }
                CHECK.due("a day on", x.day(), 0);
                CHECK.due("nobody came", x.event(0, 4), 0);
                CHECK.due("held as before", x.event(0, 3), come >= needs ? 1 : 0);
            }
        }
        MistCanton x = Check.canton("person a plain lot 2;person b plain lot 2;event e on 1 needs 1;event f on 1 needs 1;"
                + "comes a e;comes b f;");
        CHECK.due("both are held", x.day(), 3);
        CHECK.due("those of two events have not met", x.count(6), 0);
        MistCanton five = Check.canton(Cantons.FULL);
        for (int e = 0; e < 5; e++) {
            CHECK.due("event " + e, five.day(), 1 << e);
        }
        CHECK.due("on day 0 and 6 nobody", five.day() + five.day(), 0);
        CHECK.due("held in all", five.count(5), 5);
        CHECK.due("all have met", five.count(6), 15);
    }

    private static void dayNought() {
        CHECK.at("promise 6, day 0");
        MistCanton x = Check.canton(Cantons.one(0, "1"));
        CHECK.due("nobody came on day 0", x.event(0, 4), 0);
        CHECK.due("nor was it held", x.event(0, 3), 0);
        for (int d = 0; d < 7; d++) {
            x.day();
        }
        CHECK.due("on day 7 one did", x.event(0, 4), 1);
        x.undo();
        CHECK.due("day 6", x.event(0, 4), 0);
        x.day();
        x.mark(0, false);
        x.day();
        x.mark(0, true);
        CHECK.due("on day 7 again", x.event(0, 4), 1);
        Check.feed(x, Cantons.one(0, "1"));
        x.canton();
        CHECK.due("on day 0 nobody", x.event(0, 4), 0);
    }

    private static void lotsAndAsking() {
        CHECK.at("promises 8 and 9");
        for (int lot = 0; lot <= 4; lot++) {
            MistCanton x = Check.canton(Cantons.FULL);
            CHECK.due("the lot ahead", x.lot(5, lot), 2);
            CHECK.due("is so", x.person(5, 1), lot);
            CHECK.due("others are as they were", x.person(4, 1), 2);
            CHECK.due("one to undo", x.count(10), 1);
            CHECK.due("one crime", x.ask(5), 1);
            CHECK.due("2, whatever it was", x.person(5, 1), 2);
            CHECK.due("two to undo", x.count(10), 2);
            CHECK.due("undone", x.undo(), true);
            CHECK.due("the lot again", x.person(5, 1), lot);
            CHECK.due("no crime", x.count(7), 0);
            CHECK.due("undone", x.undo(), true);
            CHECK.due("the first lot", x.person(5, 1), 2);
        }
        MistCanton x = Check.canton(Cantons.FULL);
        for (int i = 1; i <= 20; i++) {
            CHECK.due("crimes", x.ask(i % 6), i);
        }
        CHECK.due("crimes in all", x.count(7), 20);
        for (int i = 0; i < 16; i++) {
            x.undo();
        }
        CHECK.due("four stay", x.count(7), 4);
    }

    private static void sixteen() {
        CHECK.at("promise 10");
        for (int done = 0; done <= 18; done++) {
            MistCanton x = Check.canton(Cantons.FULL);
            for (int i = 0; i < done; i++) {
                int due = i % 3 == 0 ? x.day() : i % 3 == 1 ? x.lot(i % 6, i % 5) : x.ask(i % 6);
                CHECK.due("not refused", due >= 0, true);
            }
            int most = Math.min(done, 16);
            CHECK.due("of " + done, x.count(10), most);
            for (int i = 0; i < most; i++) {
                CHECK.due("undo", x.undo(), true);
                CHECK.due("left", x.count(10), most - i - 1);
                int left = done - i - 1;
                CHECK.due("days left of " + left, x.count(2), (left + 2) / 3);
                CHECK.due("crimes left of " + left, x.count(7), left / 3);
            }
            CHECK.due("no more", x.undo(), false);
        }
        MistCanton x = after(Cantons.FULL, 20);
        for (int i = 0; i < 5; i++) {
            x.undo();
        }
        CHECK.due("11 left", x.count(10), 11);
        for (int i = 0; i < 5; i++) {
            x.lot(0, i);
        }
        CHECK.due("16 again", x.count(10), 16);
        x.ask(0);
        CHECK.due("16 still", x.count(10), 16);
        for (int i = 0; i < 16; i++) {
            x.undo();
        }
        CHECK.due("day 5", x.count(2), 5);
        CHECK.due("no more", x.undo(), false);
    }

    private static void notUndone() {
        CHECK.at("promise 10, what is nothing to undo");
        MistCanton x = after(Cantons.FULL, 3);
        Check.week(x, "day;");
        x.see(0, 1, true);
        x.mark(0, false);
        x.feed(33, 0, 0);
        x.years(1, 9, 0);
        x.move(0);
        x.lot(6, 0);
        x.ask(-1);
        CHECK.due("three days", x.count(10), 3);
        CHECK.due("undone", x.undo(), true);
        CHECK.due("the day", x.count(2), 2);
        CHECK.due("the week stays", x.count(8), 1);
        CHECK.due("what is seen stays", x.count(9), 1);
        CHECK.due("the tape stays", x.count(11), 1);
        CHECK.due("the mark stays", x.mark(0, true), true);
        CHECK.due("of day 3", x.count(2), 3);
        CHECK.due("nothing to undo then", x.undo(), false);
    }

    private static void judged(String when, MistCanton x, int held, int met, int often) {
        CHECK.due(when + ", first held", x.judged(0), held);
        CHECK.due(when + ", first met", x.judged(1), met);
        CHECK.due(when + ", how often", x.judged(2), often);
    }

    private static void judging() {
        CHECK.at("promise 11");
        MistCanton x = Check.canton(Cantons.FULL);
        judged("no week", x, -1, -1, 0);
        Check.week(x, "day;");
        judged("line 0", x, 0, 0, 1);
        Check.week(x, "ask a;day;");
        judged("line 1", x, 1, 1, 1);
        String late = "person a plain lot 2;person b plain lot 2;event e on %d needs 2;comes a e;comes b e;goes week=5;";
        MistCanton last = Check.canton(String.format(late, 5));
        Check.week(last, "day;".repeat(40));
        judged("line 39", last, 39, 39, 1);
        Check.week(last, "day;".repeat(39) + "ask a;");
        judged("39 days", last, -1, -1, 0);
        MistCanton never = Check.canton(String.format(late, 6));
        Check.week(never, "day;".repeat(40));
        judged("day 41", never, -1, -1, 0);
        MistCanton alone = Check.canton(Cantons.one(1, "1"));
        Check.week(alone, "day;".repeat(15));
        judged("who is alone meets nobody", alone, 0, -1, 3);
        MistCanton few = Check.canton(String.format(late, 0).replace("needs 2", "needs 3").replace("=5", "=1"));
        Check.week(few, "day;".repeat(10));
        judged("they meet, held or not", few, -1, 6, 0);
        MistCanton two = Check.canton("person a plain lot 2;event e on 1 needs 1;event f on 1 needs 1;comes a e;comes a f;");
        Check.week(two, "day;");
        judged("all together", two, 0, -1, 2);
    }

    private static void fromTheBegin() {
        CHECK.at("promise 11, from the begin");
        MistCanton x = Check.canton(Cantons.TWO);
        Check.week(x, "day;lot b 2;day;day;day;day;day;day;");
        judged("told anew by the week", x, 7, 7, 1);
        x.ask(1);
        for (int d = 0; d < 14; d++) {
            x.day();
        }
        x.lot(0, 0);
        judged("whatever was done", x, 7, 7, 1);
        x.mark(0, false);
        x.mark(0, true);
        judged("gone back", x, 7, 7, 1);
        CHECK.due("nothing is done by it", x.count(2), 14);
        CHECK.due("the lot is as it was", x.person(1, 1), 2);
        Check.week(x, "ask b;day;day;day;day;day;day;day;");
        judged("asked", x, 7, 7, 1);
        Check.week(x, "day;day;day;day;day;day;day;ask b;");
        judged("asked too late", x, -1, -1, 0);
        Check.week(x, "");
        judged("an empty one", x, -1, -1, 0);
    }

    private static void marks() {
        CHECK.at("promise 44");
        MistCanton x = Check.canton(Cantons.FULL);
        for (int mark = 0; mark < 4; mark++) {
            CHECK.due("nothing is on " + mark, x.mark(mark, true), false);
            x.day();
            x.lot(mark, 4);
            x.see(mark, 1, false);
            CHECK.due("laid " + mark, x.mark(mark, false), true);
            CHECK.due("what can be undone stays", x.count(10), 2 * mark + 2);
        }
        // Who is of lot 4 comes two days before the others: on day 2 to event 3, on day 3 to event 4.
        int[] held = {1, 3, 5, 6};
        int[] lots = new int[4];
        for (int mark = 3; mark >= 0; mark--) {
            CHECK.due("back to " + mark, x.mark(mark, true), true);
            CHECK.due("the day", x.count(2), mark + 1);
            CHECK.due("seen", x.count(9), mark + 1);
            CHECK.due("its lot", x.person(mark, 1), 4);
            CHECK.due("held", x.count(5), held[mark]);
            CHECK.due("nothing to undo", x.count(10), 0);
            lots[mark] = x.lots();
        }
        // Each sight is of the day behind the event's own: by lot 1 alone one would come on it.
        CHECK.due("lots of the first", lots[0], 31 - 2);
        CHECK.due("lots of the last", lots[3], 31 - 2);
        x.see(4, 3, true);
        CHECK.due("another lot", x.lots(), 8);
        CHECK.due("back", x.mark(0, true), true);
        CHECK.due("what was seen then", x.lots(), 29);
        Check.feed(x, Cantons.FULL);
        CHECK.due("a new canton", x.canton(), 0);
        for (int mark = 0; mark < 4; mark++) {
            CHECK.due("no mark is there, " + mark, x.mark(mark, true), false);
        }
    }

    private static void marksHold() {
        CHECK.at("promise 44, what they hold");
        MistCanton x = Check.canton(Cantons.FULL);
        x.mark(0, false);
        Check.week(x, "day;day;");
        Check.feed(x, "abc");
        x.day();
        x.ask(3);
        CHECK.due("back", x.mark(0, true), true);
        CHECK.due("the week is none of it", x.count(8), 2);
        CHECK.due("nor is the tape", x.count(11), 3);
        CHECK.due("the day is", x.count(2), 0);
        CHECK.due("crimes are", x.count(7), 0);
        CHECK.due("whom one has met is", x.count(6), 0);
        CHECK.due("who came is", x.event(0, 4), 0);
        x.day();
        x.undo();
        CHECK.due("an undo leaves it", x.mark(0, true), true);
        x.day();
        x.mark(0, false);
        x.mark(1, true);
        CHECK.due("day 1", x.count(2), 1);
        x.day();
        CHECK.due("laid anew, back", x.mark(0, true), true);
        CHECK.due("to day 1", x.count(2), 1);
        CHECK.due("eight sights", sights(x), 8);
        CHECK.due("gone", x.mark(0, true), true);
        CHECK.due("none is seen", x.count(9), 0);
        CHECK.due("eight again", sights(x), 8);
    }

    private static int sights(MistCanton x) {
        int taken = 0;
        for (int i = 0; i < 12; i++) {
            taken += x.see(i % 5, 1 + i, false) ? 1 : 0;
        }
        return taken;
    }

    private static void counting() {
        CHECK.at("promise 45");
        MistCanton x = Check.canton(Cantons.FULL + "snow 0;");
        int[] begin = {6, 5, 0, 0, 1, 0, 0, 0, 0, 0, 0, 0};
        for (int what = 0; what < 12; what++) {
            CHECK.due("count(" + what + ") at the begin", x.count(what), begin[what]);
        }
        Check.week(x, "day;day;ask a;");
        for (int d = 0; d < 8; d++) {
            x.day();
        }
        x.ask(0);
        x.ask(1);
        x.see(0, 1, true);
        Check.feed(x, "abcd");
        int[] then = {6, 5, 8, 1, 0, 6, 15, 2, 3, 1, 10, 4};
        for (int what = 0; what < 12; what++) {
            CHECK.due("count(" + what + ") then", x.count(what), then[what]);
        }
    }

    public static void main(String[] args) {
        newObject();
        whatDay();
        kinds();
        needs();
        dayNought();
        lotsAndAsking();
        sixteen();
        notUndone();
        judging();
        fromTheBegin();
        marks();
        marksHold();
        counting();
        CHECK.end();
    }
}
