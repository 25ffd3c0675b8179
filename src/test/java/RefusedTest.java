import java.util.NoSuchElementException;
import java.util.function.Consumer;

/**
 * A refused call changes nothing: two objects are led the same way, one of them with refused calls between, and then
 * answer alike whatever they are asked.
 */
public final class RefusedTest {
    private static final Check CHECK = new Check();
    private static final int MIN = Integer.MIN_VALUE;
    private static final int MAX = Integer.MAX_VALUE;

    /** A canton, a week, days, lots, askings, sights and marks; "day;!" is left on the tape. */
    private static MistCanton lived() {
        MistCanton x = Check.canton(Cantons.KINDS + "goes met<3 or week=1;");
        Check.week(x, "day;ask ann;lot bob 2;day;day;day;day;day;day;");
        x.lot(2, 3);
        x.see(0, 2, false);
        x.mark(1, false);
        for (int d = 0; d < 8; d++) {
            x.day();
        }
        x.ask(2);
        x.see(1, 3, false);
        x.mark(3, false);
        x.lot(1, 4);
        x.day();
        Check.feed(x, "day;!");
        return x;
    }

    private static MistCanton none() {
        return new MistCanton();
    }

    private static MistCanton full() {
        MistCanton x = Check.canton(Cantons.FULL);
        for (int i = 0; i < 8; i++) {
            x.see(i % 5, 1 + i, false);
        }
        for (int d = 0; d < 17; d++) {
            x.day();
        }
        return x;
    }

    private static void same(String what, MistCanton with, MistCanton without) {
        CHECK.due(what + " leaves all as it was", Snapshot.firstDifference(with, without), "");
    }

    private static void onAll(String what, Consumer<MistCanton> refused) {
        MistCanton x = lived();
        refused.accept(x);
        same(what, x, lived());
        x = none();
        refused.accept(x);
        same(what + " at first", x, none());
        x = full();
        refused.accept(x);
        same(what + " where there is most", x, full());
    }

    private static void hands() {
        CHECK.at("promises 8, 9, 21, 44");
        onAll("lot", x -> {
            int sum = x.lot(-1, 2) + x.lot(6, 2) + x.lot(0, -1) + x.lot(0, 5) + x.lot(MIN, 0) + x.lot(MAX, 4) + x.lot(1, MIN)
                    + x.lot(32, 1) + x.lot(0, MAX);
            CHECK.due("each lot is refused", sum, -9);
        });
        onAll("ask", x -> CHECK.due("each asking is refused", x.ask(-1) + x.ask(6) + x.ask(32) + x.ask(MIN) + x.ask(MAX), -5));
        onAll("see", x -> {
            boolean any = x.see(-1, 1, true) || x.see(5, 1, true) || x.see(0, 0, true) || x.see(0, 29, true)
                    || x.see(0, -1, false) || x.see(32, 1, false) || x.see(0, MAX, true) || x.see(MIN, MIN, true);
            CHECK.due("no sight is taken", any, false);
        });
        onAll("mark", x -> {
            boolean any = x.mark(-1, false) || x.mark(4, false) || x.mark(4, true) || x.mark(-1, true) || x.mark(0, true)
                    || x.mark(2, true) || x.mark(MIN, false) || x.mark(MAX, true) || x.mark(32, false);
            CHECK.due("no mark is such", any, false);
        });
        MistCanton ninth = full();
        CHECK.due("a ninth sight", ninth.see(0, 1, true), false);
        same("a ninth sight", ninth, full());
        MistCanton x = none();
        CHECK.due("nothing to undo", x.undo(), false);
        same("undoing nothing", x, none());
        MistCanton emptied = full();
        MistCanton other = full();
        for (int i = 0; i < 16; i++) {
            emptied.undo();
            other.undo();
        }
        CHECK.due("a 17th undo", emptied.undo(), false);
        same("a 17th undo", emptied, other);
    }

    private static void faults() {
        CHECK.at("promises 3 and 4");
        String[] cantons = {"!", "person", "person bob gaoler lot 1;event vote on 3 needs 3;comes bob vote;snow 5;goes 0;!",
                "snow 1 2 3;goes not 1;goes 1;", "person ann plain lot 5;", "comes ann mass;", "event mass on 1 needs 0;",
                Cantons.FULL + "person g plain lot 2;", Cantons.of(0, 5) + "event u on 1 needs 1;", "goes (((((1)))));",
                "person a plain lot 2;person a plain lot 2;", "snow 1;snow 2;", "day;", "person ann plain lot 4;goes 1"};
        for (String text : cantons) {
            MistCanton x = lived();
            x.canton();
            Check.feed(x, text);
            CHECK.due("canton of '" + text + "' has a fault", x.canton() != 0, true);
            CHECK.due("the tape is taken", x.count(11), 0);
            MistCanton y = lived();
            y.canton();
            same("canton of '" + text + "'", x, y);
        }
        String[] weeks = {"!", "day", "day;ask", "ask zed;", "lot ann 5;", "lot mass 2;", "day;".repeat(40) + "day;",
                "day;day;day;lot ann 2;ask ann;;", "person a plain lot 2;", "lot ann 1;lot bob 1;ask cid;day;week;"};
        for (String text : weeks) {
            MistCanton x = lived();
            x.week();
            Check.feed(x, text);
            CHECK.due("week of '" + text + "' has a fault", x.week() != 0, true);
            CHECK.due("the tape is taken", x.count(11), 0);
            MistCanton y = lived();
            y.week();
            same("week of '" + text + "'", x, y);
        }
        MistCanton x = none();
        Check.feed(x, "person a plain lot 2;event e on 0 needs 1;comes a e;snow 1;goes 0");
        CHECK.due("the first canton has a fault", x.canton() % 16, 1);
        same("a fault at first", x, none());
    }

    private static void questions() {
        CHECK.at("what is asked of others");
        onAll("a question", x -> {
            int sum = x.attends(-1, 1) + x.attends(0, 61) + x.next(-1, 0) + x.next(0, 5) + x.quorum(5) + x.held(0, 61)
                    + x.held(-1, 5) + x.meet(0, 0) + x.meet(0, 6) + x.idle(0) + x.idle(61) + x.group(-1) + x.leads(-1)
                    + x.family(5) + x.through(0, 6) + x.shared(6, 0) + x.move(5) + x.last(-1) + x.chance(0, 7, 5)
                    + x.chance(0, 3, 11) + x.years(10000, 5, 0) + x.years(5, 100, 0) + x.years(5, 5, 3) + x.count(12);
            CHECK.due("each is none", sum, -24);
            CHECK.due("each is -2", x.person(6, 0) + x.person(0, 5) + x.event(5, 0) + x.event(0, -1) + x.judged(3), -10);
            CHECK.due("each is -3", x.least(5, 0) + x.least(0, 2), -6);
        });
        onAll("a well of others", x -> {
            int thrown = 0;
            for (int[] a : new int[][] {{-1, 0, 0, -1}, {0, 10, 0, 0}, {0, 0, 10, 0}, {0, 0, 0, 4}, {0, 0, 0, -2}}) {
                try {
                    x.rests(a[0], a[1], a[2], a[3]);
                } catch (NoSuchElementException e) {
                    thrown++;
                }
            }
            CHECK.due("each throws", thrown, 5);
        });
    }

    private static void taken() {
        CHECK.at("what is asked");
        onAll("asking for what is there", x -> {
            x.attends(0, 60);
            x.next(0, 0);
            x.quorum(0);
            x.held(0, 60);
            x.meet(0, 1);
            x.idle(60);
            x.move(0);
            x.chance(0, 6, 5);
            x.years(1, 99, 0);
            x.judged(0);
            x.lonely();
            x.twins();
            x.last(0);
            x.busy();
            x.family(0);
            x.look();
            x.steady();
        });
        MistCanton left = lived();
        CHECK.due("signs left out", left.feed(0, -1L, 0x7f1f0b0900000000L), 5);
        same("feeding none", left, lived());
    }

    public static void main(String[] args) {
        hands();
        faults();
        questions();
        taken();
        CHECK.end();
    }
}
