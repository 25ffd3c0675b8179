/** Promises 2 to 4: the tape, and the faults of cantons and weeks. */
public final class ReadingTest {
    private static final Check CHECK = new Check();
    private static final String ANN = "person ann plain lot 2;";
    private static final String MASS = "event mass on 0 needs 1;";
    private static final int NONE = 0;

    private static void canton(String text, int kind, int place) {
        MistCanton x = new MistCanton();
        Check.feed(x, text);
        CHECK.due("canton of '" + text + "'", x.canton(), kind + 16 * place);
        CHECK.due("signs left behind '" + text + "'", x.count(11), 0);
    }

    private static void fine(String text) {
        canton(text, NONE, 0);
    }

    /** The fault is at the first sign of what stands behind the bar. */
    private static void wrong(int kind, String text) {
        int place = text.indexOf('|');
        canton(text.substring(0, place) + text.substring(place + 1), kind, place);
    }

    private static void wrongWeek(int kind, String text) {
        int place = text.indexOf('|');
        MistCanton x = Check.canton(ANN + MASS);
        String plain = text.substring(0, place) + text.substring(place + 1);
        CHECK.due("week of '" + plain + "'", Check.week(x, plain), kind + 16 * place);
        CHECK.due("lines behind it", x.count(8), 0);
    }

    private static void fineWeek(String text, int lines) {
        MistCanton x = Check.canton(ANN + MASS);
        CHECK.due("week of '" + text + "'", Check.week(x, text), 0);
        CHECK.due("lines of '" + text + "'", x.count(8), lines);
    }

    private static void feed() {
        CHECK.at("promise 2");
        MistCanton x = new MistCanton();
        CHECK.due("no sign", x.feed(0, 0, 0), 0);
        CHECK.due("the highest byte first", x.feed(0x6461790000000000L, 0, 0x3b00000000000000L), 4);
        CHECK.due("day; is a week", x.week(), 0);
        CHECK.due("it has a line", x.count(8), 1);
        CHECK.due("taken", x.count(11), 0);
        CHECK.due("10 and 32 and 126", x.feed(0x0a20000000000000L, 0x7e00000000000000L, 0), 3);
        CHECK.due("9, 11, 31, 127, 128, 255", x.feed(0x090b1f7f80ff0000L, 0x80ffL, -1L), 3);
        CHECK.due("33 .. 47", x.feed(0x2122232425262728L, 0x292a2b2c2d2e2f21L, 0x2020202020202020L), 27);
        for (int i = 0; i < 40; i++) {
            x.feed(0x2020202020202020L, 0x2020202020202020L, 0x2020202020202020L);
        }
        CHECK.due("987 signs", x.count(11), 987);
        CHECK.due("what is beyond 1,000 is left out", x.feed(0x2020202020202020L, 0x2020202020202020L, 0x20L), 1000);
        CHECK.due("none more", x.feed(0x20L, 0x20L, 0x20L), 1000);
    }

    private static void cutAtThousand() {
        MistCanton x = new MistCanton();
        Check.feed(x, " ".repeat(999) + "person");
        CHECK.due("the first letter is the thousandth sign", x.canton(), 1 + 16 * 999);
        Check.feed(x, " ".repeat(1000) + "!");
        CHECK.due("what was left out is not read", x.canton(), 0);
        Check.feed(x, "snow 1" + " ".repeat(990) + "1234");
        CHECK.due("a number up to the end", x.canton(), 4 + 16 * 996);
        Check.feed(x, "snow 12;");
        CHECK.due("a longer text", x.canton(), 0);
        Check.feed(x, "snow 1");
        CHECK.due("what was there before is not read", x.canton(), 1 + 16 * 6);
        Check.feed(x, "day;day");
        CHECK.due("a longer word", x.week(), 1 + 16 * 7);
        Check.feed(x, "day;da");
        CHECK.due("a shorter one", x.week(), 1 + 16 * 4);
        Check.feed(x, " ".repeat(977) + ANN);
        CHECK.due("a line up to the end", x.canton(), 0);
        CHECK.due("is read", x.count(0), 1);
    }

    private static void tokens() {
        CHECK.at("promise 3, tokens");
        fine("");
        fine(" \n ");
        fine(ANN);
        fine("person\nann\n\nplain lot 2\n;\n");
        wrong(1, "|personann plain lot 2;");
        wrong(1, "|persona");
        fine("person abcdefgh plain lot2;");
        wrong(1, "person |abcdefghi plain lot 2;");
        wrong(1, "person |Ann plain lot 2;");
        wrong(1, "person a|B plain lot 2;");
        wrong(1, "person a|1 plain lot 2;");
        wrong(1, "|!");
        wrong(1, "|;");
        wrong(1, "|1");
        wrong(1, ANN + "|;");
        fine("person ann plain lot 0002;");
        wrong(1, "person ann plain lot |00002;");
        fine("event e on 3needs 1;");
        wrong(1, "person ann plain lot 2|a;");
        wrong(1, "person ann plain lot |>2;");
        wrong(1, "person ann plain lot |-2;");
    }

    private static void personsAndEvents() {
        CHECK.at("promise 3, person and event");
        wrong(1, "person|");
        wrong(1, "person |");
        wrong(1, "person ann|");
        wrong(1, "person ann plain|");
        wrong(1, "person ann plain lot|");
        wrong(1, "person ann plain lot 2|");
        wrong(1, "person ann plain lot 2 |");
        wrong(1, "person ann |king lot 2;");
        wrong(1, "person ann |lot 2;");
        wrong(1, "person ann plain |2;");
        wrong(1, "person ann plain lot |ann;");
        wrong(1, "person ann plain lot |;");
        wrong(4, "person ann plain lot |5;");
        wrong(4, "person ann plain lot |9999");
        for (int lot = 0; lot <= 4; lot++) {
            fine("person ann plain lot " + lot + ";");
        }
        String[] kept = {"person", "lot", "event", "on", "needs", "comes", "snow", "goes", "day", "ask", "plain",
                "widow", "thief", "gaoler", "not", "and", "or"};
        for (String word : kept) {
            wrong(1, "person |" + word + " plain lot 2;");
            wrong(1, "event |" + word + " on 1 needs 1;");
        }
        fine("person off plain lot 0;person week widow lot 0;person met thief lot 0;event white on 0 needs 1;");
        wrong(3, ANN + "person |ann");
        wrong(3, ANN + "event |ann");
        wrong(3, MASS + "person |mass");
        wrong(3, MASS + "event |mass");
        fine("event e on 0 needs 1;event f on 6 needs 6;");
        wrong(4, "event e on |7 needs 1;");
        wrong(4, "event e on 6 needs |0;");
        wrong(4, "event e on 6 needs |7;");
        wrong(1, "event e |needs 1 on 1;");
        wrong(1, "event e on 1 |;");
        String six = "";
        for (char c = 'a'; c < 'g'; c++) {
            six += "person " + c + " plain lot 2;";
        }
        fine(six);
        wrong(5, six + "|person");
        wrong(5, six + "|person a");
        String five = "";
        for (char c = 'p'; c < 'u'; c++) {
            five += "event " + c + " on 1 needs 1;";
        }
        fine(five);
        wrong(5, five + "|event");
        fine(six + five);
    }

    private static void comesAndSnow() {
        CHECK.at("promise 3, comes and snow");
        String both = ANN + MASS;
        fine(both + "comes ann mass;");
        wrong(2, both + "comes |bob mass;");
        wrong(2, both + "comes |mass mass;");
        wrong(2, both + "comes ann |ann;");
        wrong(2, both + "comes ann |vote;");
        wrong(1, both + "comes |person mass;");
        wrong(1, both + "comes ann |day;");
        wrong(1, both + "comes |1 mass;");
        wrong(1, both + "comes ann |;");
        wrong(1, both + "comes ann mass |mass;");
        wrong(2, "comes |ann mass;" + both);
        wrong(3, both + "comes ann mass;comes ann |mass;");
        fine(both + "person bob plain lot 2;comes ann mass;comes bob mass;");
        fine("snow 0 27;");
        fine("snow 1 2 3 4 5 6 7 8;");
        wrong(1, "snow |;");
        wrong(1, "snow 1|");
        wrong(1, "snow 1 |day;");
        wrong(1, "snow 1 |12345;");
        wrong(4, "snow |28;");
        wrong(4, "snow 0 |28;");
        wrong(3, "snow 5 |5;");
        wrong(3, "snow 5 |0005;");
        wrong(5, "snow 1 2 3 4 5 6 7 8 |9;");
        wrong(3, "snow 1 2 3 4 5 6 7 8 |8;");
        wrong(4, "snow 1 2 3 4 5 6 7 8 |28;");
        wrong(3, "snow 1;|snow 2;");
        wrong(3, "snow 1;|snow;");
        wrong(4, "person ann plain lot |9;!");
    }

    private static void goes() {
        CHECK.at("promise 3, goes");
        fine("goes 1;");
        fine("goes 9999;");
        fine("goes off+week*met-white;");
        fine("goes 1 < 2 and 2 = 3 or not 0;");
        fine("goes (1<2)<3;");
        fine("goes 1<2 or 2<3;");
        wrong(1, "goes |;");
        wrong(1, "goes|");
        wrong(1, "goes 1|");
        wrong(1, "goes 1 |1;");
        wrong(1, "goes 1 |not 1;");
        wrong(1, "goes 1|);");
        wrong(1, "goes (1|;");
        wrong(1, "goes (|);");
        wrong(1, "goes |-1;");
        wrong(1, "goes 1+|;");
        wrong(1, "goes 1*|*2;");
        wrong(1, "goes 1<2|<3;");
        wrong(1, "goes 1=2|<3;");
        wrong(1, "goes 1 and |or 1;");
        wrong(1, "goes not |and;");
        wrong(1, "goes |ann;");
        wrong(1, "goes |12345;");
        wrong(3, "goes 1;|goes");
        fine("goes ((((1))));");
        fine("goes not not not not 1;");
        fine("goes not(not(off));");
        wrong(5, "goes (((((|1)))));");
        wrong(5, "goes (((((|(");
        wrong(5, "goes (((((|not");
        wrong(5, "goes (((((|white");
        wrong(5, "goes not not not not not |not");
        wrong(5, "goes not(not(not |1));");
        wrong(1, "goes (((((|;");
        wrong(1, "goes (((((|)");
        wrong(1, "goes (((((|ann");
        wrong(1, "goes (((((|12345");
        wrong(1, "goes (((((|");
        fine("goes ((((1))))+((((1))))*not not not not 1;");
        wrong(5, "goes ((((1))))+((((2+(|3)))));");
    }

    private static void weeks() {
        CHECK.at("promise 4");
        fineWeek("", 0);
        fineWeek("day;day;\n", 2);
        fineWeek("lot ann 0;lot ann 4;ask ann;day;", 4);
        wrongWeek(1, "day|");
        wrongWeek(1, "day |1;");
        wrongWeek(1, "|week;");
        wrongWeek(1, "|person");
        wrongWeek(1, "|12");
        wrongWeek(2, "lot |bob 2;");
        wrongWeek(2, "lot |mass 2;");
        wrongWeek(1, "lot |day 2;");
        wrongWeek(1, "lot ann |;");
        wrongWeek(4, "lot ann |5;");
        wrongWeek(2, "ask |mass;");
        wrongWeek(1, "ask |ask;");
        wrongWeek(1, "ask ann |2;");
        wrongWeek(1, "day;day |day;");
        fineWeek("day;".repeat(40), 40);
        wrongWeek(5, "day;".repeat(40) + "|day");
        wrongWeek(5, "day;".repeat(40) + "|lot bob 9;");
        wrongWeek(1, "day;".repeat(40) + "|comes");
        wrongWeek(1, "day;".repeat(40) + "|;");
        MistCanton x = new MistCanton();
        CHECK.due("nobody is told yet", Check.week(x, "ask ann;"), 2 + 16 * 4);
    }

    private static void allStays() {
        CHECK.at("promises 3 and 4, all stays by a fault");
        MistCanton x = Check.canton(ANN + MASS + "comes ann mass;snow 1;goes not white;");
        Check.week(x, "day;day;");
        x.day();
        x.lot(0, 4);
        x.ask(0);
        x.see(0, 3, true);
        x.mark(2, false);
        Check.feed(x, "person bob gaoler lot 1;event vote on 3 needs 3;comes bob vote;snow 5;goes 0;!");
        CHECK.due("a fault at the end", x.canton() % 16, 1);
        CHECK.due("another week", Check.week(x, "day;day;day;ask bob;") % 16, 2);
        int[] due = {1, 1, 1, 1, 1, 0, 0, 1, 2, 1, 3, 0};
        for (int what = 0; what < due.length; what++) {
            CHECK.due("count(" + what + ")", x.count(what), due[what]);
        }
        CHECK.due("kind", x.person(0, 0), 0);
        CHECK.due("events to come to", x.person(0, 3), 1);
        CHECK.due("its day", x.event(0, 0), 0);
        CHECK.due("the law", x.quorum(0), 6);
        CHECK.due("the mark", x.mark(2, true), true);
        CHECK.due("names", Check.week(x, "ask ann;"), 0);
    }

    private static void allIsNew() {
        CHECK.at("promise 3, all is new");
        MistCanton x = Check.canton(ANN + MASS + "person bob plain lot 2;event fair on 1 needs 1;comes ann fair;"
                + "comes bob fair;snow 1;goes 1;");
        Check.week(x, "day;");
        x.day();
        x.ask(1);
        x.see(0, 3, true);
        x.mark(0, false);
        CHECK.due("held before", x.count(5), 1);
        CHECK.due("met before", x.count(6), 1);
        Check.feed(x, "event sale on 2 needs 2;person cid thief lot 4;");
        CHECK.due("a new canton", x.canton(), 0);
        int[] due = {1, 1, 0, 0, 0, 0, 0, 0, 0, 0, 0, 0};
        for (int what = 0; what < due.length; what++) {
            CHECK.due("count(" + what + ")", x.count(what), due[what]);
        }
        CHECK.due("nobody is to come", x.event(0, 2), 0);
        CHECK.due("nobody came", x.event(0, 4), 0);
        CHECK.due("its lot", x.person(0, 1), 4);
        CHECK.due("no mark", x.mark(0, true), false);
        CHECK.due("nothing to undo", x.undo(), false);
        CHECK.due("nothing seen", x.lots(), 31);
        CHECK.due("names", Check.week(x, "ask ann;"), 66);
        CHECK.due("an empty one", x.canton(), 0);
        CHECK.due("nobody", x.count(0), 0);
    }

    public static void main(String[] args) {
        feed();
        cutAtThousand();
        tokens();
        personsAndEvents();
        comesAndSnow();
        goes();
        weeks();
        allStays();
        allIsNew();
        CHECK.end();
    }
}
