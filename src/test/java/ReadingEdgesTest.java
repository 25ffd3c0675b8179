import java.util.ArrayList;
import java.util.List;

/** Promises 2 to 4 and the terms that they use, on both sides of each bound that the document tells. */
public final class ReadingEdgesTest {
    private static final Check CHECK = new Check();
    private static final String[] KEPT = {"person", "lot", "event", "on", "needs", "comes", "snow", "goes", "day", "ask",
            "plain", "widow", "thief", "gaoler", "not", "and", "or"};
    private static final long BLANKS = 0x2020202020202020L;

    private static int fault(String text) {
        MistCanton x = new MistCanton();
        Check.feed(x, text);
        return x.canton();
    }

    private static void fine(String text) {
        CHECK.due("canton of '" + text + "'", fault(text), 0);
    }

    /** The fault is at the first sign of what stands behind the bar. */
    private static void wrong(int kind, String text) {
        int place = text.indexOf('|');
        String plain = text.substring(0, place) + text.substring(place + 1);
        CHECK.due("canton of '" + plain + "'", fault(plain), kind + 16 * place);
    }

    private static void week(int kind, String text) {
        int place = text.indexOf('|');
        String plain = text.replace("|", "");
        MistCanton x = Check.canton("person ann plain lot 2;person abcdefgh plain lot 2;event mass on 0 needs 1;");
        CHECK.due("week of '" + plain + "'", Check.week(x, plain), kind == 0 ? 0 : kind + 16 * place);
    }

    private static boolean isSign(int sign) {
        return sign == 10 || sign >= 32 && sign <= 126;
    }

    private static void signs() {
        CHECK.at("promise 2, signs");
        for (int sign = 0; sign < 256; sign++) {
            MistCanton x = new MistCanton();
            CHECK.due("feed of " + sign, x.feed(sign, 0, 0), isSign(sign) ? 1 : 0);
            CHECK.due("signs with " + sign, x.count(11), isSign(sign) ? 1 : 0);
        }
        String text = "person ann plain lot 4;";
        for (int at = 0; at < 24; at++) {
            MistCanton x = new MistCanton();
            Check.feed(x, text.substring(0, at < 23 ? at : 23) + (char) 0 + text.substring(at < 23 ? at : 23));
            CHECK.due("23 signs, one left out at " + at, x.count(11), 23);
            CHECK.due("which is read", x.canton(), 0);
            CHECK.due("as told", x.person(0, 1), 4);
        }
        MistCanton x = new MistCanton();
        CHECK.due("24 signs", x.feed(BLANKS, BLANKS, BLANKS), 24);
        CHECK.due("8 more of a", x.feed(BLANKS, 0, 0), 32);
        CHECK.due("8 more of b", x.feed(0, BLANKS, 0), 40);
        CHECK.due("8 more of c", x.feed(0, 0, BLANKS), 48);
        CHECK.due("all bytes too high", x.feed(-1, -1, Long.MIN_VALUE), 48);
    }

    private static MistCanton blanks(int many) {
        MistCanton x = new MistCanton();
        Check.feed(x, " ".repeat(many));
        CHECK.due("blanks", x.count(11), many);
        return x;
    }

    private static void thousand() {
        CHECK.at("promise 2, 1,000 signs");
        CHECK.due("999 and one", blanks(999).feed(0, 0, 32), 1000);
        CHECK.due("1,000 and one", blanks(1000).feed(0, 0, 32), 1000);
        CHECK.due("976 and 24", blanks(976).feed(BLANKS, BLANKS, BLANKS), 1000);
        CHECK.due("977 and 24", blanks(977).feed(BLANKS, BLANKS, BLANKS), 1000);
        CHECK.due("975 and 24", blanks(975).feed(BLANKS, BLANKS, BLANKS), 999);
        MistCanton x = blanks(996);
        Check.feed(x, "day;!");
        CHECK.due("the 1,001st is left out", x.week(), 0);
        CHECK.due("the first 1,000 are read", x.count(8), 1);
        x = blanks(995);
        Check.feed(x, "day;!");
        CHECK.due("the 1,000th is read", x.week(), 1 + 16 * 999);
        x = blanks(997);
        Check.feed(x, "day;");
        CHECK.due("the end is at 1,000", x.week(), 1 + 16 * 1000);
        x = blanks(999);
        CHECK.due("others take no place", x.feed(0x0001020304050607L, 0x08090b0c0d0e0f7fL, 0x803bL), 1000);
        CHECK.due("the sign behind them", x.canton(), 1 + 16 * 999);
        x = blanks(1000);
        CHECK.due("read", x.canton(), 0);
        CHECK.due("empty then", x.count(11), 0);
        CHECK.due("and fed anew", x.feed(32, 0, 0), 1);
        x = blanks(1000);
        CHECK.due("read as a week", x.week(), 0);
        CHECK.due("empty then too", x.count(11), 0);
    }

    private static void tokens() {
        CHECK.at("tokens");
        for (char c = 32; c <= 126; c++) {
            boolean letter = c >= 'a' && c <= 'z';
            int place = letter ? 0 : 6;
            CHECK.due("person" + c + "ann", fault("person" + c + "ann plain lot 2;"), c == 32 ? 0 : 1 + 16 * place);
            boolean joins = "+-*<=".indexOf(c) >= 0 || c >= '0' && c <= '9';
            int behind = c == 32 || c == ';' ? 7 : 6;
            CHECK.due("goes 1" + c + "1;", fault("goes 1" + c + "1;"), joins ? 0 : 1 + 16 * behind);
            CHECK.due("a name of " + c, fault("person " + c + " plain lot 2;"),
                    letter ? 0 : c == 32 ? 1 + 16 * 9 : 1 + 16 * 7);
        }
        fine("person\nann\nplain\nlot\n2\n;\n");
        fine("\n \n person a plain lot2;event e on0needs1;comes a e;snow1 2;goes1;");
        fine("goes(1)and(1)or not(1);");
        fine("goes 1and 1or 0;");
        wrong(1, "goes 1|anda;");
        wrong(1, "snow 1 2|a;");
        wrong(1, "person ann|1 plain lot 2;");
        fine("person abcdefgh plain lot 2;");
        wrong(1, "person |abcdefghi plain lot 2;");
        wrong(1, "person abcdefgh |abcdefghi");
        wrong(1, "person |" + "a".repeat(900));
        wrong(1, "|personss");
        wrong(1, "|perso");
    }

    private static void numbers() {
        CHECK.at("numbers");
        fine("person ann plain lot 0004;event e on 0006 needs 0006;snow 0027;goes 9999;");
        wrong(1, "person ann plain lot |00004;");
        wrong(1, "event e on |00006 needs 6;");
        wrong(1, "event e on 6 needs |00006;");
        wrong(1, "snow |00027;");
        wrong(1, "snow 1 |00002;");
        fine("goes 0000;");
        wrong(1, "goes |00000;");
        wrong(1, "goes |10000;");
        wrong(1, "goes 1+|12345;");
        wrong(1, "goes |" + "1".repeat(900) + ";");
        wrong(1, "snow |4294967296;");
        wrong(1, "person ann plain lot |4294967298;");
        week(0, "lot ann 0004;");
        week(1, "lot ann |00004;");
        week(1, "lot ann |4294967298;");
        for (int n = 0; n <= 9999; n += n < 10 ? 1 : 1237) {
            String lot = "person ann plain lot |" + n + ";";
            CHECK.due(lot, fault(lot.replace("|", "")), n <= 4 ? 0 : 4 + 16 * 21);
            String on = "event e on |" + n + " needs 1;";
            CHECK.due(on, fault(on.replace("|", "")), n <= 6 ? 0 : 4 + 16 * 11);
            String needs = "event e on 1 needs |" + n + ";";
            CHECK.due(needs, fault(needs.replace("|", "")), n >= 1 && n <= 6 ? 0 : 4 + 16 * 19);
            week(n <= 4 ? 0 : 4, "lot abcdefgh |" + n + ";");
        }
        for (int n = 0; n <= 30; n++) {
            CHECK.due("snow " + n, fault("snow " + n + ";"), n <= 27 ? 0 : 4 + 16 * 5);
            CHECK.due("snow twice " + n, fault("snow " + n + " " + n + ";"),
                    n <= 27 ? 3 + 16 * (n < 10 ? 7 : 8) : 4 + 16 * 5);
        }
        wrong(4, "snow 0 |28;");
        wrong(4, "snow 1 |29;");
        wrong(4, "snow 3 27 |55;");
        wrong(4, "snow 3 |9999;");
        wrong(4, "snow 1 2 3 4 5 6 7 8 |36;");
    }

    /** What is none, behind each word that could be taken for another one of these. */
    private static void none() {
        CHECK.at("what is none, behind a word");
        String told = "person ann plain lot 2;event mass on 1 needs 1;";
        for (String none : new String[] {"12345", "abcdefghi", "!", "A"}) {
            wrong(1, told + "comes ann |" + none + ";");
            wrong(1, told + "comes |" + none + " mass;");
            wrong(1, "person |" + none + " plain lot 2;");
            wrong(1, "person plainx |" + none + " lot 2;");
            wrong(1, "person ann plain |" + none + " 2;");
            wrong(1, "event e on |" + none);
            wrong(1, "event e |" + none);
            wrong(1, "event e on 1 |" + none);
            wrong(1, "goes not |" + none + " 1;");
            wrong(1, "goes off |" + none + " 1;");
            wrong(1, "goes 1 and |" + none + ";");
            wrong(1, "goes 1 and 1 |" + none + " 1;");
            wrong(1, "snow 1 |" + none + ";");
            wrong(1, told + "|" + none);
            week(1, "day |" + none);
            week(1, "day;|" + none);
            week(1, "ask |" + none + ";");
            week(1, "lot ann |" + none + ";");
        }
    }

    /** Signs of a longer text that was read before are none of the shorter one. */
    private static void shorter(String before, String text, int due) {
        MistCanton x = new MistCanton();
        Check.feed(x, before);
        x.canton();
        Check.feed(x, text);
        CHECK.due("canton of '" + text + "' behind '" + before + "'", x.canton(), due);
        Check.feed(x, before);
        x.week();
        Check.feed(x, text);
        CHECK.due("week of '" + text + "' behind '" + before + "'", x.week(), due == 0 ? 0 : 1);
    }

    private static void shorter() {
        CHECK.at("a shorter text");
        shorter("snow 12345;", "snow 1", 1 + 16 * 6);
        shorter("snow 1 2 3;", "snow 1 2", 1 + 16 * 8);
        shorter("snow 1;;", "snow 1", 1 + 16 * 6);
        shorter("personss", "person", 1 + 16 * 6);
        shorter("person abcdefgh", "person abcdefg", 1 + 16 * 14);
        shorter("goes 1 + 1;", "goes 1 ", 1 + 16 * 7);
        shorter("person a plain lot 2;", "", 0);
        shorter("person a plain lot 2;", " ", 0);
        for (String end : new String[] {"a", "1", ";", " ", "\n", "!"}) {
            MistCanton x = blanks(999);
            Check.feed(x, end);
            CHECK.due("1,000 signs, at last '" + end + "'", x.canton(), end.isBlank() ? 0 : 1 + 16 * 999);
        }
        MistCanton x = blanks(994);
        Check.feed(x, "goes 1");
        CHECK.due("a number at the end of 1,000", x.canton(), 1 + 16 * 1000);
        x = blanks(994);
        Check.feed(x, "person");
        CHECK.due("a word at the end of 1,000", x.canton(), 1 + 16 * 1000);
    }

    private static void names() {
        CHECK.at("names");
        for (String word : KEPT) {
            wrong(1, "person |" + word + " plain lot 2;");
            wrong(1, "event |" + word + " on 1 needs 1;");
            wrong(1, "person ann plain lot 2;event mass on 1 needs 1;comes |" + word + " mass;");
            wrong(1, "person ann plain lot 2;event mass on 1 needs 1;comes ann |" + word + ";");
            week(1, "ask |" + word + ";");
            week(1, "lot |" + word + " 2;");
            fine("person " + word + "x plain lot 2;event x" + word + " on 1 needs 1;");
            fine("person " + word.substring(1) + "y plain lot 2;");
        }
        for (String word : new String[] {"off", "week", "met", "white", "lots", "o", "n", "king", "held"}) {
            fine("person " + word + " plain lot 2;");
            fine("event " + word + " on 1 needs 1;");
        }
        fine("person abcdefgh plain lot 2;person abcdefgi plain lot 2;person abcdefg plain lot 2;event bcdefgh on 0 needs 1;");
        wrong(3, "person abcdefgh plain lot 2;person |abcdefgh plain lot 2;");
        wrong(3, "event abcdefgh on 0 needs 1;person |abcdefgh plain lot 2;");
        fine("person a plain lot 2;person aa plain lot 2;event aaa on 0 needs 1;comes aa aaa;");
        wrong(2, "person a plain lot 2;person aa plain lot 2;event aaa on 0 needs 1;comes a |aa;");
        wrong(2, "person a plain lot 2;event aaa on 0 needs 1;comes |aa aaa;");
        week(0, "ask abcdefgh;");
        week(2, "ask |abcdefg;");
        week(1, "ask |abcdefghi;");
    }

    private static void most() {
        CHECK.at("as many as there can be");
        for (int n = 0; n <= 6; n++) {
            fine(Cantons.of(n, 5));
        }
        wrong(5, Cantons.of(6, 0) + "|person g plain lot 2;");
        wrong(5, Cantons.FULL + "|person");
        wrong(5, Cantons.of(0, 5) + "|event u on 1 needs 1;");
        wrong(5, Cantons.FULL + "|event");
        fine(Cantons.of(5, 4) + "person g plain lot 2;event u on 1 needs 1;");
        for (char p = 'a'; p < 'g'; p++) {
            for (char e = 'p'; e < 'u'; e++) {
                wrong(3, Cantons.FULL + "comes " + p + " |" + e + ";");
            }
        }
        StringBuilder snow = new StringBuilder("snow");
        wrong(1, "snow|");
        wrong(1, "snow|;");
        for (int n = 1; n <= 8; n++) {
            snow.append(' ').append(28 - n);
            fine(snow + ";");
        }
        wrong(5, snow + " |19;");
        wrong(5, snow + " |0;");
        wrong(3, snow + " |27;");
        wrong(4, snow + " |28;");
        wrong(1, snow + " |00000;");
        wrong(1, snow + " |day;");
        wrong(1, snow + "|");
    }

    private static void once() {
        CHECK.at("once each");
        wrong(3, "snow 1;|snow 1;");
        wrong(3, "snow 1;person a plain lot 2;|snow");
        wrong(3, "goes 1;|goes 1;");
        wrong(3, "goes 1;snow 1;|goes");
        fine("goes 1;snow 1;person a plain lot 2;event e on 1 needs 1;comes a e;");
        String both = "person a plain lot 2;event e on 1 needs 1;comes a e;";
        wrong(3, both + "comes a |e;");
        wrong(3, both + "event f on 1 needs 1;comes a f;comes a |e;");
        fine(both + "event f on 1 needs 1;comes a f;");
        fine(both + "person b plain lot 2;comes b e;");
        wrong(2, "comes |a e;" + both);
        wrong(2, "person a plain lot 2;comes a |e;event e on 1 needs 1;");
        wrong(2, "event e on 1 needs 1;comes |a e;person a plain lot 2;");
    }

    private static void first() {
        CHECK.at("the first that is wrong, and the least");
        wrong(4, "person ann plain lot |5;person ann plain lot 9;!");
        wrong(3, "person a plain lot 2;person |a king lot 9");
        wrong(5, Cantons.of(6, 0) + "|person a king");
        wrong(2, "person a plain lot 2;comes |b b;snow 99;");
        wrong(5, "goes (((((|1)))));!");
        wrong(1, "person a plain lot 2 |person a");
        wrong(4, "snow 1 |28 28 28 28 28 28 28 28 28;");
        wrong(3, "snow 1 |1 28;");
        wrong(1, "person |lot plain lot 2;");
        wrong(1, "goes (((((|and");
        wrong(1, "goes not not not not not |;");
        week(5, "day;".repeat(40) + "|lot zed 9;");
        week(1, "day;".repeat(40) + "|person;");
        week(1, "day;".repeat(39) + "day|");
        week(2, "day;".repeat(39) + "ask |zed;!");
    }

    private static void ends() {
        CHECK.at("the end");
        fine("");
        fine("\n");
        wrong(1, "person a plain lot 2   |");
        wrong(1, "person a plain lot 2\n|");
        wrong(1, "person a plain lot 2; goes (1  |");
        String text = "person a plain lot 2 ; event e on 1 needs 1 ; comes a e ; snow 1 2 ; goes ( off ) ;";
        int at = 0;
        for (String token : text.split(" ")) {
            int end = at + token.length();
            boolean whole = token.equals(";");
            CHECK.due("up to " + end, fault(text.substring(0, end)), whole ? 0 : 1 + 16 * end);
            at = end + 1;
        }
        week(1, "lot|");
        week(1, "lot ann|");
        week(1, "lot ann 2|");
        week(1, "ask ann  |");
        week(0, "lot ann 2;");
    }

    private static void lines() {
        CHECK.at("promise 4, lines");
        for (String line : new String[] {"day;", "lot ann 2;", "ask ann;"}) {
            week(0, line.repeat(39));
            week(0, line.repeat(40));
            week(5, line.repeat(40) + "|" + line);
            week(5, line.repeat(40) + "\n |" + line.substring(0, 3));
            week(1, line.repeat(40) + "|;");
            week(0, line.repeat(40) + " \n");
            MistCanton x = Check.canton("person ann plain lot 2;");
            Check.week(x, line.repeat(40));
            CHECK.due("40 lines of " + line, x.count(8), 40);
        }
        week(1, "day;|;");
        week(1, "|;");
        week(1, "day |ann;");
        week(1, "ask ann |2;");
        week(1, "lot ann |;");
        week(1, "lot |2 ann;");
        week(2, "ask |mass;");
        week(2, "lot |mass 2;");
        MistCanton x = new MistCanton();
        CHECK.due("days alone, at first", Check.week(x, "day;day;"), 0);
        CHECK.due("are two lines", x.count(8), 2);
    }

    /** Not and ( ) in each order, so many of them; in the end a part, at the bar. */
    private static List<String> nested(int depth, String part) {
        List<String> all = new ArrayList<>();
        for (int bits = 0; bits < 1 << depth; bits++) {
            StringBuilder open = new StringBuilder("goes ");
            StringBuilder close = new StringBuilder();
            for (int i = 0; i < depth; i++) {
                boolean isNot = (bits >> i & 1) != 0;
                open.append(isNot ? "not " : "(");
                close.append(isNot ? "" : ")");
            }
            all.add(open + "|" + part + close + ";");
        }
        return all;
    }

    private static void depths() {
        CHECK.at("within 5");
        for (String part : new String[] {"1", "off", "white", "0"}) {
            for (int depth = 0; depth <= 4; depth++) {
                for (String text : nested(depth, part)) {
                    fine(text.replace("|", ""));
                }
            }
            for (String text : nested(5, part)) {
                wrong(5, text);
            }
        }
        for (String text : nested(5, "(1)")) {
            wrong(5, text);
        }
        for (String text : nested(5, "not 1")) {
            wrong(5, text);
        }
        for (String text : nested(5, "+")) {
            wrong(1, text);
        }
        for (String text : nested(5, "mass")) {
            wrong(1, text);
        }
        fine("goes ((((1)))) and ((((2)))) + ((((3)))) * not not not not 4 < ((((5))));");
        wrong(5, "goes ((((1)))) and ((((not |2))));");
        wrong(5, "goes ((((1+1+1*(|1)))));");
        fine("goes (" + "1+".repeat(300) + "1);");
        fine("goes 1" + "*(1)".repeat(200) + ";");
        fine("goes 1" + " or 1".repeat(150) + ";");
    }

    private static void thirdCanton() {
        CHECK.at("promise 3, nothing stays of a canton before");
        String most = Cantons.FULL + "snow 1 2;goes 0;";
        String[] texts = {"person z plain lot 2;", "event y on 1 needs 1;", "person w plain lot 2;event y on 1 needs 1;",
                "comes a p;", "person w plain lot 2;comes w p;", "person w plain lot 2;event y on 1 needs 1;comes w y;snow 1;"
                + "goes 1;", "snow 2;", "goes 1;", ""};
        for (String text : texts) {
            for (String before : new String[] {most, most + "!"}) {
                MistCanton x = Check.canton(most);
                Check.feed(x, before);
                x.canton();
                Check.feed(x, text);
                CHECK.due("fault of '" + text + "'", x.canton(), fault(text));
            }
        }
        MistCanton y = Check.canton(Cantons.FULL + "snow 1 2 5;");
        Check.week(y, "day;day;");
        for (int d = 0; d < 5; d++) {
            y.day();
        }
        y.ask(5);
        y.see(4, 1, false);
        for (int mark = 0; mark < 4; mark++) {
            y.mark(mark, false);
        }
        CHECK.due("somebody came to the fifth event", y.event(4, 4), 63);
        Check.feed(y, Cantons.FULL);
        CHECK.due("told anew", y.canton(), 0);
        CHECK.due("all is as at the begin", Snapshot.firstDifference(y, Check.canton(Cantons.FULL)), "");
        MistCanton z = Check.canton(Cantons.FULL + "snow 1 2 5;goes 0;");
        Check.feed(z, Cantons.KINDS);
        z.canton();
        Check.feed(z, Cantons.CHAIN);
        CHECK.due("a third one", z.canton(), 0);
        CHECK.due("is as a first one", Snapshot.firstDifference(z, Check.canton(Cantons.CHAIN)), "");
    }

    public static void main(String[] args) {
        signs();
        thousand();
        tokens();
        numbers();
        none();
        shorter();
        names();
        most();
        once();
        first();
        ends();
        lines();
        depths();
        thirdCanton();
        CHECK.end();
    }
}
