import com.sun.management.ThreadMXBean;
import java.lang.management.ManagementFactory;
import java.util.NoSuchElementException;

/** What calls make is counted: a new object is small, and no call but a throw of rests makes anything. */
public final class RoomTest {
    private static final Check CHECK = new Check();
    private static final int CALLS_MOST = 512;
    private static final int ROUNDS = 6;
    private static int sum;

    private static void hands(MistCanton x, int i) {
        x.day();
        x.lot(i % 5, i % 5);
        x.ask(i % 4);
        sum += x.undo() ? 1 : 0;
        x.mark(i % 4, i % 3 == 0);
        sum += x.judged(i % 3) + x.person(i % 5, i % 6) + x.event(i % 3, i % 6) + x.count(i % 13);
        x.see(i % 2, 1 + i % 28, false);
    }

    private static void questions(MistCanton x, int i) {
        sum += x.attends(0, 60) + x.next(0, 1) + x.quorum(0) + x.held(0, 60) + x.meet(0, 2) + x.idle(60) + x.busy();
        sum += x.group(0) + x.least(0, 0) + x.lots() + x.look() + x.guess() + x.wrong() + x.leads(1) + x.spread();
        sum += x.pairs() + x.family(1) + x.through(0, 3) + x.wedded() + x.circles() + x.cover() + x.shared(0, 1);
        sum += x.lonely() + x.right() + x.move(1) + x.twins() + x.last(0) + x.steady() + x.chance(0, 6, 5);
        sum += x.rests(2, 5, 1, i % 2) + x.years(i, 99, 0);
    }

    private static void readings(MistCanton x, long[][] canton, long[][] week) {
        for (long[] three : canton) {
            x.feed(three[0], three[1], three[2]);
        }
        sum += x.canton();
        for (long[] three : week) {
            x.feed(three[0], three[1], three[2]);
        }
        sum += x.week();
    }

    private static long made(long[][] canton, long[][] week, boolean fresh) {
        ThreadMXBean threads = (ThreadMXBean) ManagementFactory.getThreadMXBean();
        MistCanton x = new MistCanton();
        long before = threads.getCurrentThreadAllocatedBytes();
        if (fresh) {
            x = new MistCanton();
            sum += x.count(0);
        } else {
            for (int i = 0; i < ROUNDS; i++) {
                readings(x, canton, week);
                hands(x, i);
                questions(x, i);
            }
        }
        return threads.getCurrentThreadAllocatedBytes() - before;
    }

    private static boolean othersThrow(MistCanton x) {
        try {
            sum += x.rests(2, 5, 1, 2);
            return false;
        } catch (NoSuchElementException e) {
            return true;
        }
    }

    public static void main(String[] args) {
        CHECK.at("room");
        String law = "goes " + "((off+1)*week<met or not white) and ".repeat(8) + "1;";
        long[][] canton = Check.feeds(Cantons.KINDS + law).toArray(new long[0][]);
        long[][] week = Check.feeds("day;lot ann 3;ask bob;day;".repeat(5)).toArray(new long[0][]);
        made(canton, week, false);
        made(canton, week, true);
        long calls = made(canton, week, false);
        CHECK.due(ROUNDS + " rounds of all calls make " + calls + " bytes, less than 2,000", calls < 2000, true);
        long fresh = made(canton, week, true);
        CHECK.due("a new object makes " + fresh + " bytes, less than 30,000", fresh < 30000, true);
        MistCanton x = new MistCanton();
        int thrown = 0;
        for (int i = 0; i < CALLS_MOST; i++) {
            thrown += othersThrow(x) ? 1 : 0;
        }
        CHECK.due("rests throws each time", thrown, CALLS_MOST);
        CHECK.end();
    }
}
