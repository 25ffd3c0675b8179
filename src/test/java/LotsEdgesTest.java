/** Promises 19 to 28, 36 and 40 on both sides of each bound that the document tells. */
public final class LotsEdgesTest {
    private static final Check CHECK = new Check();

    /** Persons of such lots (a g behind a lot makes a gaoler of it) who all come to e on day 0, which needs so many. */
    private static MistCanton lots(int needs, String... lots) {
        StringBuilder text = new StringBuilder();
        for (int p = 0; p < lots.length; p++) {
            boolean gaoler = lots[p].endsWith("g");
            text.append("person ").append((char) ('a' + p)).append(gaoler ? " gaoler lot " : " plain lot ");
            text.append(lots[p].charAt(0)).append(';');
        }
        text.append("event v on 0 needs ").append(needs).append(';');
        for (int p = 0; p < lots.length; p++) {
            text.append("comes ").append((char) ('a' + p)).append(" v;");
        }
        return Check.canton(text.toString());
    }

    private static void group(int due, String... lots) {
        CHECK.due("group of lots " + String.join(" ", lots), lots(1, lots).group(0), due);
    }

    private static void groups() {
        CHECK.at("promise 19");
        for (int lot = 0; lot <= 4; lot++) {
            group(1, "" + lot);
            group(63, "" + lot, "" + lot, "" + lot, "" + lot, "" + lot, "" + lot);
        }
        group(1, "0", "1", "2", "3", "4");
        group(16, "4", "3", "2", "1", "0");
        group(2, "4", "3");
        group(3, "4", "4", "3");
        group(6, "4", "3", "3");
        group(6, "4", "2", "0g");
        group(5, "4g", "1", "0g");
        group(2, "0g", "1");
        group(1, "0g", "3");
        group(34, "0", "1", "2", "3", "4", "1");
        group(33, "4", "0", "1", "2", "3", "4");
        MistCanton x = Check.canton("person a plain lot 1;person b plain lot 1;person c plain lot 3;event e on 0 needs 1;"
                + "event f on 0 needs 1;comes c e;");
        CHECK.due("those who are to come alone", x.group(0), 4);
        CHECK.due("nobody is", x.group(1), 0);
        x.lot(2, 0);
        CHECK.due("told anew", x.group(0), 4);
    }

    private static void least(int much, int off, int needs, String... lots) {
        String what = "least of " + needs + " of lots " + String.join(" ", lots);
        CHECK.due(what + ", how much", lots(needs, lots).least(0, 0), much);
        CHECK.due(what + ", which", lots(needs, lots).least(0, 1), off);
    }

    private static void leasts() {
        CHECK.at("promise 20");
        for (int lot = 0; lot <= 4; lot++) {
            least(0, lot - 2, 1, "" + lot);
            least(-3, -3, 2, "" + lot);
        }
        least(4, -2, 2, "0", "4");
        least(3, -2, 2, "0", "3");
        least(1, -2, 2, "0", "1", "3");
        least(2, 1, 3, "4", "3", "2");
        least(6, 0, 5, "0", "1", "2", "3", "4");
        least(-3, -3, 6, "0", "1", "2", "3", "4");
        least(8, -2, 6, "0", "0", "0", "0", "4", "4");
        least(8, -2, 4, "0", "0", "4", "4");
        least(0, 2, 2, "0", "4", "4");
        least(0, -2, 2, "4", "4", "0", "0");
        least(2, 0, 2, "0g", "4");
        least(2, 0, 2, "4", "0g");
        least(0, 0, 2, "0g", "4g");
        least(1, -2, 2, "0", "1", "4g");
        least(1, -1, 2, "1", "2", "4");
        least(0, 0, 1, "0g");
        least(0, -2, 1, "0", "0g");
        least(2, 0, 3, "4", "2g", "1g");
        least(1, 0, 3, "3", "2g", "1g");
        least(-3, -3, 4, "3", "2g", "1g");
        least(1, 0, 2, "4", "3", "0g");
        least(1, 1, 2, "4", "3", "0");
        least(1, 0, 2, "3", "0", "0g");
        MistCanton x = lots(2, "0", "4", "2");
        CHECK.due("before", x.least(0, 0), 2);
        CHECK.due("the least off", x.least(0, 1), -2);
        x.lot(0, 3);
        CHECK.due("told anew", x.least(0, 0), 1);
        CHECK.due("off", x.least(0, 1), 0);
        x.ask(0);
        CHECK.due("asked", x.least(0, 0), 0);
        MistCanton y = Check.canton("person a plain lot 2;person b plain lot 2;event e on 0 needs 2;comes a e;");
        CHECK.due("who is not to come does not count", y.least(0, 0), -3);
    }

    private static void sights() {
        CHECK.at("promises 21 and 22");
        for (int weekday = 0; weekday <= 6; weekday++) {
            for (int days : new int[] {1, 2, 7, 27, 28}) {
                int lot = (weekday - days % 7 + 7 + 2) % 7;
                int bit = lot <= 4 ? 1 << lot : 0;
                MistCanton x = Check.canton("event e on " + weekday + " needs 6;goes 0;");
                CHECK.due("seen", x.see(0, days, true), true);
                CHECK.due("came in " + days + " to one on " + weekday, x.lots(), bit);
                x = Check.canton("event e on " + weekday + " needs 6;goes 0;");
                CHECK.due("not seen", x.see(0, days, false), true);
                CHECK.due("did not come in " + days + " to one on " + weekday, x.lots(), 31 - bit);
                x = Check.canton("event e on " + weekday + " needs 1;snow " + days % 28 + ";");
                x.see(0, days, true);
                CHECK.due("came where it snows in " + days + " to one on " + weekday, x.lots(), days % 7 == weekday ? 31 : 0);
            }
        }
        MistCanton x = Check.canton("event e on 0 needs 1;");
        for (int n = 1; n <= 8; n++) {
            CHECK.due("sight " + n, x.see(0, 7, true), true);
            CHECK.due("seen", x.count(9), n);
        }
        CHECK.due("a ninth", x.see(0, 1, true), false);
        CHECK.due("eight", x.count(9), 8);
        CHECK.due("lot 2, all the same", x.lots(), 4);
        MistCanton thieves = Check.canton("person a thief lot 0;event e on 3 needs 1;");
        thieves.see(0, 3, true);
        CHECK.due("the unknown one is plain", thieves.lots(), 4);
    }

    private static void sightsInTime() {
        CHECK.at("promise 22, the day of a sight is its own");
        MistCanton x = Check.canton("event e on 3 needs 1;");
        x.day();
        x.see(0, 2, true);
        CHECK.due("day 3", x.lots(), 4);
        for (int d = 0; d < 9; d++) {
            x.day();
            CHECK.due("a day on", x.lots(), 4);
        }
        for (int d = 0; d < 10; d++) {
            x.undo();
            CHECK.due("a day before", x.lots(), 4);
        }
        x.see(0, 4, true);
        CHECK.due("day 4, lot 1: no lot is left", x.lots(), 0);
        CHECK.due("and there is none to look for", x.look(), -1);
    }

    private static void looks() {
        CHECK.at("promise 23");
        CHECK.due("no event", Check.canton("person a plain lot 2;").look(), -1);
        CHECK.due("on day 3, lot 4 comes on day 1", Check.canton("event e on 3 needs 1;").look(), 8);
        CHECK.due("on day 4, lot 4 comes on day 2", Check.canton("event e on 4 needs 1;").look(), 16);
        CHECK.due("the second event is earlier", Check.canton("event e on 4 needs 1;event f on 2 needs 1;").look(), 9);
        CHECK.due("the fifth event", Check.canton("event a on 4 needs 1;event b on 4 needs 1;event c on 4 needs 1;"
                + "event d on 4 needs 1;event e on 3 needs 1;").look(), 12);
        for (int weekday = 0; weekday <= 6; weekday++) {
            MistCanton x = Check.canton("event e on " + weekday + " needs 1;");
            for (int off = -1; off <= 1; off++) {
                int day = (weekday - off + 6) % 7 + 1;
                x.see(0, day, false);
            }
            CHECK.due("lots 0 and 4 are left", x.lots(), 17);
            int zero = (weekday + 2 + 6) % 7 + 1;
            int four = (weekday - 2 + 6) % 7 + 1;
            CHECK.due("the first day on which one comes", x.look(), 8 * Math.min(zero, four));
            x.see(0, zero, true);
            CHECK.due("lot 0", x.lots(), 1);
            CHECK.due("it is known", x.look(), -1);
        }
        MistCanton far = Check.canton("event e on 0 needs 1;snow 7 14 21 2 9 16 23;");
        far.see(0, 1, false);
        far.see(0, 5, false);
        far.see(0, 6, false);
        CHECK.due("in 28 days", far.look(), 8 * 28);
        MistCanton third = Check.canton("event e on 0 needs 1;event f on 2 needs 1;");
        third.see(0, 1, false);
        CHECK.due("four lots, one of them at a time", third.lots(), 29);
        CHECK.due("the first day, the second event", third.look(), 9);
        CHECK.due("where it snows nothing is told", Check.canton("event e on 1 needs 1;event f on 3 needs 1;snow 1;").look(), 16);
    }

    private static void beliefs(MistCanton x, int guess, int wrong, int spread, int pairs, int right) {
        CHECK.due("guess", x.guess(), guess);
        CHECK.due("wrong", x.wrong(), wrong);
        CHECK.due("spread", x.spread(), spread);
        CHECK.due("pairs", x.pairs(), pairs);
        CHECK.due("right", x.right(), right);
    }

    private static void days() {
        CHECK.at("promises 24, 25, 27, 28 and 36");
        for (int lot = 0; lot <= 4; lot++) {
            String l = "" + lot;
            MistCanton x = lots(6, l, l, l, l, l, l);
            for (int d = 0; d <= 14; d++) {
                beliefs(x, (d + lot + 5) % 7, lot - 2, 1, 15, lot == 2 ? 63 : 0);
                x.day();
            }
        }
        MistCanton all = lots(6, "4", "3", "2", "1", "0");
        int[] least = {0, 0, 0, 1, 2, 0, 0};
        int[] wrong = {0, -1, -2, -2, -2, 2, 1};
        for (int d = 0; d < 7; d++) {
            beliefs(all, least[d], wrong[d], 5, 0, 4);
            all.day();
        }
        MistCanton two = lots(6, "0", "0", "4", "4", "2", "1g");
        beliefs(two, 0, 0, 3, 3, 48);
        two.day();
        beliefs(two, 1, 0, 3, 3, 48);
        two.day();
        beliefs(two, 0, -2, 3, 3, 48);
        two.lot(4, 4);
        beliefs(two, 4, 2, 3, 4, 32);
        beliefs(Check.canton("event e on 1 needs 1;"), -1, -4, 0, 0, 0);
        beliefs(Check.canton("person a plain lot 0;person b plain lot 4;person c gaoler lot 1;snow 0;"), 0, 0, 1, 3, 7);
    }

    private static void leads() {
        CHECK.at("promise 26");
        MistCanton x = lots(6, "0", "1", "2", "3", "4", "4g");
        int[] due = {2, 36, 8, 16, 0, 8};
        for (int p = 0; p < 6; p++) {
            CHECK.due("leads(" + p + ")", x.leads(p), due[p]);
        }
        x.lot(4, 0);
        CHECK.due("off 1 leads nobody then", x.leads(3), 0);
        CHECK.due("off -2", x.leads(4), 2);
        x.lot(5, 1);
        CHECK.due("a gaoler's stays 0", x.leads(1), 36);
        MistCanton white = Check.canton("person a plain lot 1;person b plain lot 2;snow 0;");
        CHECK.due("where it snows, too", white.leads(0), 2);
    }

    private static void steady() {
        CHECK.at("promise 40");
        CHECK.due("nobody", Check.canton("event e on 1 needs 1;").steady(), -1);
        CHECK.due("none is right", lots(1, "1", "3", "4").steady(), 0);
        CHECK.due("the last one is", lots(1, "1", "3", "4", "0", "1", "2").steady(), 5);
        CHECK.due("a gaoler is", lots(1, "1", "3", "4", "0", "1", "0g").steady(), 5);
        CHECK.due("of equal ones the first", lots(1, "1", "2", "4g", "2").steady(), 1);
        String white = "person a plain lot 1;person b plain lot 2;snow 0 1 2 3 4 5 6 7;";
        CHECK.due("eight snows are not 28", Check.canton(white).steady(), 1);
        MistCanton x = lots(1, "2", "2");
        x.lot(0, 3);
        CHECK.due("told anew", x.steady(), 1);
        x.undo();
        CHECK.due("undone", x.steady(), 0);
    }

    public static void main(String[] args) {
        groups();
        leasts();
        sights();
        sightsInTime();
        looks();
        days();
        leads();
        steady();
        CHECK.end();
    }
}
