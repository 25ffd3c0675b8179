/** The E of goes: what it comes to, also where ints wrap, and its facts on both sides of the days on which they change. */
public final class LawEdgesTest {
    private static final Check CHECK = new Check();
    // 2147483647, told by numbers of four digits.
    private static final String MOST = "(9999*9999*21+9999*4790+8416)";

    private static boolean isSo(String person, String law) {
        MistCanton x = Check.canton("person p " + person + ";event e on 1 needs 1;comes p e;snow 1;goes " + law + ";");
        return x.attends(0, 1) == 1;
    }

    private static void so(String law, boolean due) {
        CHECK.due("goes " + law, isSo("plain lot 3", law), due);
        CHECK.due("goes 0=(" + law + ")", isSo("plain lot 3", "0=(" + law + ")"), !due);
    }

    /** It comes to just this number: not to one that is less by one or more by one. */
    private static void comesTo(String law, int due) {
        for (int n = due - 1; n <= due + 1; n++) {
            String number = n < 0 ? "0-" + -n : Integer.toString(n);
            so("(" + law + ")=" + number, n == due);
        }
        so(law, due != 0);
    }

    private static void numbers() {
        CHECK.at("numbers");
        comesTo("0", 0);
        comesTo("1", 1);
        comesTo("9998", 9998);
        comesTo("0007", 7);
        comesTo("2+3*4", 14);
        comesTo("2*3+4", 10);
        comesTo("10-3-2", 5);
        comesTo("10-(3-2)", 9);
        comesTo("10-3*2", 4);
        comesTo("2*3*4", 24);
        comesTo("(2+3)*4", 20);
        comesTo("0-1", -1);
        comesTo("1-1", 0);
        comesTo("0-2*3", -6);
        comesTo("(0-2)*(0-3)", 6);
    }

    private static void truths() {
        CHECK.at("not, and, or, < and =");
        comesTo("not 0", 1);
        comesTo("not 1", 0);
        comesTo("not 2", 0);
        comesTo("not(0-1)", 0);
        comesTo("not not 7", 1);
        comesTo("not 0+1", 2);
        comesTo("not 1*5", 0);
        comesTo("not 3=0", 1);
        comesTo("2 and 4", 1);
        comesTo("4 and 2", 1);
        comesTo("0-1 and 1", 1);
        comesTo("1 and 0-1", 1);
        comesTo("1 and 0", 0);
        comesTo("0 and 1", 0);
        comesTo("0 and 0", 0);
        comesTo("2 or 0", 1);
        comesTo("0 or 4", 1);
        comesTo("0 or 0-1", 1);
        comesTo("0-1 or 0", 1);
        comesTo("4 or 4", 1);
        comesTo("0 or 0", 0);
        comesTo("1<2", 1);
        comesTo("2<2", 0);
        comesTo("3<2", 0);
        comesTo("0-1<0", 1);
        comesTo("2=2", 1);
        comesTo("2=3", 0);
        comesTo("0-1=0-1", 1);
        comesTo("1 or 1 and 0", 0);
        comesTo("0 and 0 or 1", 1);
        comesTo("0 and 1 or 1", 1);
        comesTo("1 or 0 and 0", 0);
        comesTo("1+1<3 and 2*2=4", 1);
        comesTo("1 and 2+2<4", 0);
        comesTo("(1<2)+(2=2)+(3 and 3)", 3);
    }

    private static void wraps() {
        CHECK.at("ints wrap");
        so("0<" + MOST, true);
        so(MOST + "+1<0", true);
        so("0-" + MOST + "-1<0", true);
        so("0-" + MOST + "-2=" + MOST, true);
        so("0-" + MOST + "-1=" + MOST + "+1", true);
        so("0-" + MOST + "-1<" + MOST, true);
        so(MOST + "<0-" + MOST + "-1", false);
        so(MOST + "*2=0-2", true);
        so("9999*9999*9999=0-9999*9999*10-9999*2755-2714", true);
        comesTo("(9999*6+5542)*(9999*6+5542)", 0);
        comesTo("(9999*6+5542)*(9999*6+5542)+1", 1);
    }

    /** As many values wait at once as can be: one of each sign on each level, for what is within four ( ). */
    private static void deep() {
        CHECK.at("what waits");
        String open = "1 and 2=1+1*(";
        for (int depth = 0; depth <= 4; depth++) {
            String one = open.repeat(depth) + "1 and 2=1+1*%d" + ")".repeat(depth);
            CHECK.due("1 within " + depth, isSo("plain lot 3", String.format(one, 1)), true);
            CHECK.due("0 within " + depth, isSo("plain lot 3", String.format(one, 0)), false);
        }
    }

    private static void off() {
        CHECK.at("off");
        for (int lot = 0; lot <= 4; lot++) {
            for (int off = -3; off <= 3; off++) {
                String law = "off=" + (off < 0 ? "0-" + -off : Integer.toString(off));
                for (String kind : new String[] {"plain", "widow", "thief"}) {
                    CHECK.due(kind + " lot " + lot + " " + law, isSo(kind + " lot " + lot, law), off == lot - 2);
                }
                CHECK.due("gaoler lot " + lot + " " + law, isSo("gaoler lot " + lot, law), off == 0);
            }
        }
        MistCanton x = Check.canton("person p plain lot 1;event e on 1 needs 1;comes p e;snow 1;goes off;");
        CHECK.due("off is 1 less than none", x.attends(0, 1), 1);
        x.ask(0);
        CHECK.due("asked, off is 0", x.attends(0, 1), 0);
        x.lot(0, 4);
        CHECK.due("told anew", x.attends(0, 1), 1);
    }

    private static void week() {
        CHECK.at("week");
        for (int day = 1; day <= 60; day++) {
            MistCanton x = Check.canton(Cantons.one(day % 7, "week=" + day / 7));
            CHECK.due("on day " + day, x.attends(0, day), 1);
            x = Check.canton(Cantons.one(day % 7, "week=" + (day + 1) / 7));
            CHECK.due("on day " + day + ", as a day later", x.attends(0, day), day % 7 == 6 ? 0 : 1);
        }
        MistCanton x = Check.canton(Cantons.one(0, "9<week"));
        for (int d = 0; d < 63; d++) {
            x.day();
        }
        CHECK.due("day 63 is of week 9", x.count(5), 0);
        for (int d = 0; d < 7; d++) {
            x.day();
        }
        CHECK.due("day 70 is of week 10", x.count(5), 1);
    }

    private static void met() {
        CHECK.at("met");
        String three = Cantons.of(3, 5);
        MistCanton x = Check.canton(three + "goes met=0;");
        CHECK.due("on day 1 none has met any", x.attends(0, 1), 7);
        CHECK.due("on day 2 all have", x.attends(1, 2), 0);
        x = Check.canton(three + "goes met=2 or week=0;");
        CHECK.due("two each, up to the day before", x.attends(0, 8), 7);
        x = Check.canton(three + "goes met=1 or met=3;");
        CHECK.due("never one or three", x.lonely(), 7);
        x = Check.canton(Cantons.CHAIN + "goes met<2;");
        CHECK.due("day 1", x.attends(0, 1), 3);
        CHECK.due("day 2", x.attends(1, 2), 6);
        CHECK.due("b has met two on day 8", x.attends(0, 8), 1);
        CHECK.due("day 3", x.attends(2, 3), 12);
        CHECK.due("c has met two on day 10", x.attends(2, 10), 8);
        CHECK.due("whom one meets on the day itself does not count", Check.canton("person a plain lot 2;person b plain lot 2;"
                + "event e on 1 needs 1;event f on 1 needs 1;comes a e;comes b e;comes a f;comes b f;goes met=0;").attends(1, 1), 3);
    }

    private static void white() {
        CHECK.at("white");
        String text = "person p plain lot 2;event a on 0 needs 1;event b on 6 needs 1;event c on 1 needs 1;comes p a;"
                + "comes p b;comes p c;snow 27 0 1;goes %s;";
        MistCanton x = Check.canton(String.format(text, "white=1"));
        int[][] due = {{1, 2, 1}, {8, 2, 0}, {7, 0, 0}, {27, 1, 1}, {28, 0, 1}, {29, 2, 1}, {55, 1, 1}, {56, 0, 1}, {57, 2, 1},
                {20, 1, 0}, {48, 1, 0}};
        for (int[] row : due) {
            CHECK.due("white on day " + row[0], x.attends(row[1], row[0]), row[2]);
        }
        x = Check.canton(String.format(text, "white=0"));
        for (int[] row : due) {
            CHECK.due("not white on day " + row[0], x.attends(row[1], row[0]), 1 - row[2]);
        }
    }

    private static void without() {
        CHECK.at("without goes");
        MistCanton x = Check.canton(Cantons.one(3, "1").replace("goes 1;", ""));
        CHECK.due("one goes out", x.next(0, 0), 3);
        CHECK.due("with 0 nobody does", Check.canton(Cantons.one(3, "0") + "snow 3 10 17 24;").next(0, 0), -1);
        CHECK.due("with less than 0 one does", Check.canton(Cantons.one(3, "0-1")).next(0, 0), 3);
    }

    public static void main(String[] args) {
        numbers();
        truths();
        wraps();
        deep();
        off();
        week();
        met();
        white();
        without();
        CHECK.end();
    }
}
