/** Promises 19 to 28, 36 and 40: lots, what was seen, and what day it is to whom. */
public final class LotsTest {
    private static final Check CHECK = new Check();

    private static MistCanton kinds() {
        return Check.canton(Cantons.KINDS);
    }

    private static void group() {
        CHECK.at("promise 19");
        MistCanton x = kinds();
        CHECK.due("mass", x.group(0), 9);
        CHECK.due("of equal ones the least off", x.group(1), 4);
        x.lot(2, 4);
        CHECK.due("told anew", x.group(1), 2);
        x.lot(1, 4);
        CHECK.due("both", x.group(1), 6);
        CHECK.due("group(-1)", x.group(-1), -1);
        CHECK.due("group(2)", x.group(2), -1);
        CHECK.due("nobody is to come", Check.canton("event e on 0 needs 1;").group(0), 0);
    }

    private static void least(String what, MistCanton x, int event, int much, int off) {
        CHECK.due(what + ", how much", x.least(event, 0), much);
        CHECK.due(what + ", which", x.least(event, 1), off);
    }

    private static void least() {
        CHECK.at("promise 20");
        MistCanton x = kinds();
        least("mass", x, 0, 1, 0);
        least("of equal ones the least off", x, 1, 2, -1);
        x.lot(1, 1);
        least("are so", x, 1, 0, -1);
        String gaolers = "person g gaoler lot 0;person h gaoler lot 4;person p plain lot 4;person q plain lot 4;"
                + "event e on 0 needs %d;comes g e;comes h e;comes p e;comes q e;";
        least("gaolers are of off 0", Check.canton(String.format(gaolers, 1)), 0, 0, 0);
        least("two gaolers, or two others", Check.canton(String.format(gaolers, 2)), 0, 0, 0);
        least("a third one", Check.canton(String.format(gaolers, 3)), 0, 2, 0);
        least("all", Check.canton(String.format(gaolers, 4)), 0, 4, 0);
        least("not so many", Check.canton(String.format(gaolers, 5)), 0, -3, -3);
        least("gaolers can not be otherwise", Check.canton("person g gaoler lot 4;person p plain lot 4;"
                + "person q plain lot 3;event e on 0 needs 2;comes g e;comes p e;comes q e;"), 0, 1, 0);
        least("the least off is below 0", Check.canton("person p plain lot 0;person q plain lot 4;event e on 0 needs 1;"
                + "comes p e;comes q e;"), 0, 0, -2);
        least("the most off", Check.canton("person p plain lot 4;event e on 0 needs 1;comes p e;"), 0, 0, 2);
        for (int[] a : new int[][] {{-1, 0}, {2, 0}, {0, -1}, {0, 2}}) {
            CHECK.due("least(" + a[0] + ", " + a[1] + ")", x.least(a[0], a[1]), -3);
        }
    }

    private static void seeing() {
        CHECK.at("promises 21, 22, 23");
        MistCanton x = kinds();
        CHECK.due("nothing seen", x.lots(), 31);
        CHECK.due("look", x.look(), 8);
        CHECK.due("not in one to mass", x.see(0, 1, false), true);
        CHECK.due("lots", x.lots(), 29);
        CHECK.due("look for the fair on the same day", x.look(), 9);
        CHECK.due("not in one to the fair", x.see(1, 1, false), true);
        CHECK.due("lots left", x.lots(), 25);
        CHECK.due("look two days on", x.look(), 16);
        CHECK.due("where it snows all come", x.see(0, 7, true), true);
        CHECK.due("that tells nothing", x.lots(), 25);
        for (int d = 0; d < 5; d++) {
            x.day();
        }
        CHECK.due("in one from day 5", x.see(0, 1, true), true);
        CHECK.due("lot 3", x.lots(), 8);
        CHECK.due("no look", x.look(), -1);
        x.undo();
        CHECK.due("what is seen is of its own day", x.lots(), 8);
        CHECK.due("against it", x.see(0, 1, true), true);
        CHECK.due("no lot", x.lots(), 0);
        CHECK.due("none to look for", x.look(), -1);
        CHECK.due("six", x.see(0, 28, true), true);
        for (int[] a : new int[][] {{-1, 1}, {2, 1}, {0, 0}, {0, 29}}) {
            CHECK.due("see(" + a[0] + ", " + a[1] + ")", x.see(a[0], a[1], true), false);
        }
        CHECK.due("others are not seen", x.count(9), 6);
        CHECK.due("seven", x.see(1, 1, true), true);
        CHECK.due("eight", x.see(1, 1, true), true);
        CHECK.due("a ninth", x.see(1, 1, true), false);
        CHECK.due("eight are seen", x.count(9), 8);
        MistCanton law = Check.canton("event e on 0 needs 6;goes 0;");
        CHECK.due("the unknown one always goes out", law.see(0, 2, true), true);
        CHECK.due("by lot 0", law.lots(), 1);
        CHECK.due("no event to look at", Check.canton("person a plain lot 2;").look(), -1);
        MistCanton two = Check.canton("event e on 0 needs 1;snow 2;");
        two.see(0, 1, false);
        CHECK.due("snow on day 2 parts nobody", two.look(), 8 * 5);
        MistCanton far = Check.canton("event e on 0 needs 1;snow 7 14 21 2 9 16 23;");
        far.see(0, 1, false);
        far.see(0, 5, false);
        far.see(0, 6, false);
        CHECK.due("lots 0 and 2", far.lots(), 5);
        CHECK.due("part on the last day alone", far.look(), 8 * 28);
        far.day();
        CHECK.due("a day later, a day nearer", far.look(), 8 * 27);
    }

    private static void beliefs(String when, MistCanton x, int guess, int wrong, int spread, int pairs, int right) {
        CHECK.due(when + ", guess", x.guess(), guess);
        CHECK.due(when + ", wrong", x.wrong(), wrong);
        CHECK.due(when + ", spread", x.spread(), spread);
        CHECK.due(when + ", pairs", x.pairs(), pairs);
        CHECK.due(when + ", right", x.right(), right);
    }

    private static void beliefs() {
        CHECK.at("promises 24, 25, 27, 28, 36");
        beliefs("nobody", new MistCanton(), -1, -4, 0, 0, 0);
        MistCanton x = kinds();
        beliefs("day 0", x, 0, 0, 3, 1, 9);
        x.lot(0, 4);
        beliefs("all apart, the least", x, 0, 0, 4, 0, 8);
        x.lot(1, 4);
        x.lot(2, 4);
        beliefs("three of lot 4", x, 2, 2, 2, 3, 8);
        for (int d = 0; d < 6; d++) {
            x.day();
        }
        beliefs("round the week", x, 1, 2, 2, 3, 8);
        x.day();
        beliefs("where it snows", x, 0, 0, 1, 6, 15);
        x.day();
        x.lot(0, 0);
        x.lot(1, 0);
        x.lot(2, 0);
        beliefs("three of lot 0 on day 8", x, 6, -2, 2, 3, 8);
        MistCanton two = Check.canton(Cantons.TWO);
        for (int d = 0; d < 6; d++) {
            two.day();
        }
        beliefs("of equal ones the least", two, 0, 1, 2, 0, 1);
    }

    private static void leads() {
        CHECK.at("promise 26");
        MistCanton x = kinds();
        int[] due = {2, 0, 9, 2};
        for (int p = 0; p < 4; p++) {
            CHECK.due("leads(" + p + ")", x.leads(p), due[p]);
        }
        CHECK.due("leads(-1)", x.leads(-1), -1);
        CHECK.due("leads(4)", x.leads(4), -1);
        x.lot(0, 0);
        CHECK.due("leads of lot 0", x.leads(0), 4);
    }

    private static void steady() {
        CHECK.at("promise 40");
        CHECK.due("nobody", new MistCanton().steady(), -1);
        CHECK.due("the first of equal ones", kinds().steady(), 0);
        MistCanton x = kinds();
        x.lot(0, 1);
        CHECK.due("a gaoler", x.steady(), 3);
        MistCanton wrong = Check.canton("person a plain lot 1;person b plain lot 3;snow 4;");
        CHECK.due("all of them wrong", wrong.steady(), 0);
        wrong.lot(1, 2);
        CHECK.due("who is right", wrong.steady(), 1);
        CHECK.due("without snow", Check.canton("person a plain lot 1;person b plain lot 2;").steady(), 1);
    }

    public static void main(String[] args) {
        group();
        least();
        seeing();
        beliefs();
        leads();
        steady();
        CHECK.end();
    }
}
