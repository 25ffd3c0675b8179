import java.util.NoSuchElementException;

/** A canton where everybody is told a wrong date; the document's promises say what each call answers. */
public final class MistCanton {
    public static final int NONE = -1;

    private static final int OTHERS = -2;
    private static final int NO_LEAST = -3;
    private static final int NOBODY_WRONG = -4;

    private static final int PERSONS_MOST = 6;
    private static final int EVENTS_MOST = 5;
    private static final int LOTS = 5;
    private static final int RIGHT_LOT = 2;
    private static final int ALL_LOTS = 31;
    private static final int NEEDS_MOST = 6;

    private static final int WEEK_DAYS = 7;
    private static final int SNOW_DAYS = 28;
    private static final int SNOWS_MOST = 8;
    private static final int AHEAD_MOST = 60;
    private static final int SIGHT_MOST = 28;
    private static final int SIGHTS_MOST = 8;
    private static final int CHANCE_MOST = 6;
    private static final int ODDS_MOST = 10;
    private static final int STAKE_MOST = 9;
    private static final int SEED_MOST = 9999;
    private static final int YEARS_MOST = 99;

    private static final int TAPE_MOST = 1000;
    private static final int LINES_MOST = 40;
    private static final int UNDO_MOST = 16;
    private static final int MARKS = 4;

    private final Tape tape;
    private final CantonReader cantonReader;
    private final WeekReader weekReader;
    // What is read goes to a spare one first, so that all stays where a FAULT is found.
    private Canton told;
    private Canton spareCanton;
    private Week toldWeek;
    private Week spareWeek;
    private final State now;
    private final State ahead;
    // Of each PERSON who is no twin; a row for TWINS alone, used again by each call.
    private final int[] unlike;
    private final History history;
    private final Mark[] marks;
    private int sights;
    private int sightLots;

    public MistCanton() {
        tape = new Tape();
        cantonReader = new CantonReader(tape);
        weekReader = new WeekReader(tape);
        told = new Canton();
        spareCanton = new Canton();
        toldWeek = new Week();
        spareWeek = new Week();
        now = new State();
        ahead = new State();
        unlike = new int[PERSONS_MOST];
        history = new History();
        marks = new Mark[MARKS];
        for (int i = 0; i < MARKS; i++) {
            marks[i] = new Mark();
        }
        sights = 0;
        sightLots = ALL_LOTS;
    }

    // ---- the tape and what is read from it

    public int feed(long a, long b, long c) {
        tape.append(a);
        tape.append(b);
        tape.append(c);
        return tape.length;
    }

    public int canton() {
        int fault = cantonReader.readInto(spareCanton);
        tape.length = 0;
        if (fault != 0) {
            return fault;
        }
        Canton fresh = spareCanton;
        spareCanton = told;
        told = fresh;
        beginAnew();
        return 0;
    }

    public int week() {
        int fault = weekReader.readInto(spareWeek, told);
        tape.length = 0;
        if (fault != 0) {
            return fault;
        }
        Week fresh = spareWeek;
        spareWeek = toldWeek;
        toldWeek = fresh;
        return 0;
    }

    private void beginAnew() {
        now.begin(told);
        toldWeek.length = 0;
        history.length = 0;
        sights = 0;
        sightLots = ALL_LOTS;
        for (int i = 0; i < MARKS; i++) {
            marks[i].laid = false;
        }
    }

    // ---- what there is

    public int person(int person, int what) {
        if (!isPerson(person)) {
            return OTHERS;
        }
        switch (what) {
            case 0:
                return told.kinds[person];
            case 1:
                return now.lots[person];
            case 2:
                return told.weekdayTo(person, now, told.snows(now.day));
            case 3:
                return told.eventsOf(person);
            case 4:
                return now.met[person];
            default:
                return OTHERS;
        }
    }

    public int event(int event, int what) {
        if (!isEvent(event)) {
            return OTHERS;
        }
        switch (what) {
            case 0:
                return told.weekdays[event];
            case 1:
                return told.needs[event];
            case 2:
                return told.guests[event];
            case 3:
                return now.held[event];
            case 4:
                return now.came[event];
            default:
                return OTHERS;
        }
    }

    public int count(int what) {
        switch (what) {
            case 0:
                return told.persons;
            case 1:
                return told.events;
            case 2:
                return now.day;
            case 3:
                return now.day % WEEK_DAYS;
            case 4:
                return told.snows(now.day) ? 1 : 0;
            case 5:
                return now.heldInAll();
            case 6:
                return now.pairsMet();
            case 7:
                return now.crimes;
            case 8:
                return toldWeek.length;
            case 9:
                return sights;
            case 10:
                return history.length;
            case 11:
                return tape.length;
            default:
                return NONE;
        }
    }

    private boolean isPerson(int person) {
        return person >= 0 && person < told.persons;
    }

    private boolean isEvent(int event) {
        return event >= 0 && event < told.events;
    }

    private static boolean isWithin(int number, int least, int most) {
        return number >= least && number <= most;
    }

    private static boolean hasBit(int bits, int bit) {
        return (bits >> bit & 1) != 0;
    }

    // ---- weeks by hand

    public int day() {
        history.keep(now);
        return told.passDay(now, told.snows(now.day + 1));
    }

    public int lot(int person, int lot) {
        if (!isPerson(person) || !isWithin(lot, 0, LOTS - 1)) {
            return NONE;
        }
        history.keep(now);
        int before = now.lots[person];
        now.lots[person] = lot;
        return before;
    }

    public int ask(int person) {
        if (!isPerson(person)) {
            return NONE;
        }
        history.keep(now);
        now.answer(person);
        return now.crimes;
    }

    public boolean undo() {
        return history.bringBack(now);
    }

    public boolean mark(int mark, boolean back) {
        if (!isWithin(mark, 0, MARKS - 1)) {
            return false;
        }
        Mark chosen = marks[mark];
        if (!back) {
            chosen.lay(now, sights, sightLots);
            return true;
        }
        if (!chosen.laid) {
            return false;
        }
        now.copy(chosen.state);
        sights = chosen.sights;
        sightLots = chosen.sightLots;
        history.length = 0;
        return true;
    }

    public int judged(int what) {
        if (!isWithin(what, 0, 2)) {
            return OTHERS;
        }
        int firstHeld = NONE;
        int firstMet = NONE;
        ahead.begin(told);
        for (int i = 0; i < toldWeek.length; i++) {
            int heldNow = followLine(i);
            if (firstHeld == NONE && heldNow != 0) {
                firstHeld = i;
            }
            if (firstMet == NONE && ahead.pairsMet() > 0) {
                firstMet = i;
            }
        }
        if (what == 2) {
            return ahead.heldInAll();
        }
        return what == 0 ? firstHeld : firstMet;
    }

    private int followLine(int i) {
        int person = toldWeek.persons[i];
        switch (toldWeek.acts[i]) {
            case Week.LOT:
                ahead.lots[person] = toldWeek.lots[i];
                return 0;
            case Week.ASK:
                ahead.answer(person);
                return 0;
            default:
                return passAhead();
        }
    }

    // ---- days going by

    private int passAhead() {
        return told.passDay(ahead, told.snows(ahead.day + 1));
    }

    public int attends(int event, int days) {
        if (!isEvent(event) || !isWithin(days, 1, AHEAD_MOST)) {
            return NONE;
        }
        ahead.copy(now);
        for (int d = 1; d <= days; d++) {
            passAhead();
        }
        return ahead.came[event];
    }

    public int next(int person, int event) {
        if (!isPerson(person) || !isEvent(event)) {
            return NONE;
        }
        ahead.copy(now);
        for (int d = 1; d <= AHEAD_MOST; d++) {
            passAhead();
            if (hasBit(ahead.came[event], person)) {
                return d;
            }
        }
        return NONE;
    }

    public int quorum(int event) {
        if (!isEvent(event)) {
            return NONE;
        }
        ahead.copy(now);
        for (int d = 1; d <= AHEAD_MOST; d++) {
            if (hasBit(passAhead(), event)) {
                return d;
            }
        }
        return NONE;
    }

    public int held(int event, int days) {
        if (!isEvent(event) || !isWithin(days, 1, AHEAD_MOST)) {
            return NONE;
        }
        return timesHeld(event, days);
    }

    private int timesHeld(int event, int days) {
        ahead.copy(now);
        for (int d = 1; d <= days; d++) {
            passAhead();
        }
        return ahead.held[event] - now.held[event];
    }

    public int last(int event) {
        if (!isEvent(event)) {
            return NONE;
        }
        int latest = NONE;
        ahead.copy(now);
        for (int d = 1; d <= AHEAD_MOST; d++) {
            if (hasBit(passAhead(), event)) {
                latest = d;
            }
        }
        return latest;
    }

    public int meet(int person, int other) {
        if (!isPerson(person) || !isPerson(other) || person == other) {
            return NONE;
        }
        ahead.copy(now);
        for (int d = 0; d <= AHEAD_MOST; d++) {
            if (hasBit(ahead.met[person], other)) {
                return d;
            }
            passAhead();
        }
        return NONE;
    }

    public int idle(int days) {
        if (!isWithin(days, 1, AHEAD_MOST)) {
            return NONE;
        }
        int empty = 0;
        ahead.copy(now);
        for (int d = 1; d <= days; d++) {
            passAhead();
            if (ahead.comings() == 0) {
                empty++;
            }
        }
        return empty;
    }

    public int busy() {
        int most = 0;
        int busiest = NONE;
        ahead.copy(now);
        for (int d = 1; d <= WEEK_DAYS; d++) {
            passAhead();
            int comings = ahead.comings();
            if (comings > most) {
                most = comings;
                busiest = d;
            }
        }
        return busiest;
    }

    public int family(int event) {
        if (!isEvent(event)) {
            return NONE;
        }
        int days = 0;
        ahead.copy(now);
        for (int d = 1; d <= WEEK_DAYS; d++) {
            passAhead();
            if (ahead.came[event] != 0) {
                days++;
            }
        }
        return days;
    }

    public int lonely() {
        ahead.copy(now);
        for (int d = 1; d <= AHEAD_MOST; d++) {
            passAhead();
        }
        int alone = 0;
        for (int p = 0; p < told.persons; p++) {
            if (ahead.met[p] == 0) {
                alone |= 1 << p;
            }
        }
        return alone;
    }

    public int move(int event) {
        if (!isEvent(event)) {
            return NONE;
        }
        // The canton itself is told otherwise for a while, and as it was at the end.
        int kept = told.weekdays[event];
        int most = NONE;
        int best = 0;
        for (int weekday = 0; weekday < WEEK_DAYS; weekday++) {
            told.weekdays[event] = weekday;
            int times = timesHeld(event, SNOW_DAYS);
            if (times > most) {
                most = times;
                best = weekday;
            }
        }
        told.weekdays[event] = kept;
        return best;
    }

    public int twins() {
        for (int p = 0; p < PERSONS_MOST; p++) {
            unlike[p] = 0;
        }
        ahead.copy(now);
        for (int d = 1; d <= SNOW_DAYS; d++) {
            passAhead();
            for (int p = 0; p < told.persons; p++) {
                unlike[p] |= ahead.othersThan(p);
            }
        }
        int alike = 0;
        for (int p = 0; p < told.persons; p++) {
            int before = (1 << p) - 1;
            alike += Integer.bitCount(before & ~unlike[p]);
        }
        return alike;
    }

    public int chance(int event, int days, int odds) {
        if (!isEvent(event) || !isWithin(days, 1, CHANCE_MOST) || !isWithin(odds, 0, ODDS_MOST)) {
            return NONE;
        }
        int sum = 0;
        for (int snows = 0; snows < 1 << days; snows++) {
            if (isHeldUnder(event, days, snows)) {
                sum += weight(days, odds, snows);
            }
        }
        // The weights are out of ten to the power of the days: six days are millionths already.
        for (int d = days; d < CHANCE_MOST; d++) {
            sum *= ODDS_MOST;
        }
        return sum;
    }

    private boolean isHeldUnder(int event, int days, int snows) {
        ahead.copy(now);
        for (int d = 0; d < days; d++) {
            if (hasBit(told.passDay(ahead, hasBit(snows, d)), event)) {
                return true;
            }
        }
        return false;
    }

    private static int weight(int days, int odds, int snows) {
        int product = 1;
        for (int d = 0; d < days; d++) {
            product *= hasBit(snows, d) ? odds : ODDS_MOST - odds;
        }
        return product;
    }

    public int years(int seed, int days, int what) {
        if (!isWithin(seed, 0, SEED_MOST) || !isWithin(days, 1, YEARS_MOST) || !isWithin(what, 0, 2)) {
            return NONE;
        }
        long g = seed;
        ahead.copy(now);
        for (int d = 1; d <= days; d++) {
            if (told.persons > 0) {
                g = drawLots(g);
            }
            passAhead();
        }
        if (what == 0) {
            return ahead.heldInAll() - now.heldInAll();
        }
        return what == 1 ? ahead.pairsMet() : ahead.crimes;
    }

    private long drawLots(long before) {
        long g = drawn(before);
        int act = below(g, 6);
        if (act > 1) {
            return g;
        }
        g = drawn(g);
        int person = below(g, told.persons);
        if (act == 1) {
            ahead.answer(person);
            return g;
        }
        g = drawn(g);
        ahead.lots[person] = below(g, LOTS);
        return g;
    }

    private static long drawn(long g) {
        return (g * 1103515245L + 12345L) % 2147483648L;
    }

    private static int below(long g, int m) {
        return m > 0 ? (int) (g / 65536L % m) : 0;
    }

    // ---- lots and who is of which

    public int group(int event) {
        if (!isEvent(event)) {
            return NONE;
        }
        int most = 0;
        for (int off = -RIGHT_LOT; off <= RIGHT_LOT; off++) {
            int bits = told.guests[event] & personsOf(off);
            if (Integer.bitCount(bits) > Integer.bitCount(most)) {
                most = bits;
            }
        }
        return most;
    }

    private int personsOf(int off) {
        int bits = 0;
        for (int p = 0; p < told.persons; p++) {
            if (told.offOf(p, now) == off) {
                bits |= 1 << p;
            }
        }
        return bits;
    }

    public int least(int event, int what) {
        if (!isEvent(event) || !isWithin(what, 0, 1)) {
            return NO_LEAST;
        }
        int cheapest = NONE;
        int which = 0;
        for (int off = -RIGHT_LOT; off <= RIGHT_LOT; off++) {
            int cost = costOf(event, off);
            if (cost != NONE && (cheapest == NONE || cost < cheapest)) {
                cheapest = cost;
                which = off;
            }
        }
        if (cheapest == NONE) {
            return NO_LEAST;
        }
        return what == 0 ? cheapest : which;
    }

    private int costOf(int event, int off) {
        int missing = told.needs[event];
        int cost = 0;
        for (int change = 0; change < LOTS; change++) {
            int taken = Math.min(missing, guestsAt(event, off, change));
            missing -= taken;
            cost += taken * change;
        }
        return missing == 0 ? cost : NONE;
    }

    private int guestsAt(int event, int off, int change) {
        int guests = 0;
        for (int p = 0; p < told.persons; p++) {
            boolean can = told.kinds[p] != Canton.GAOLER || off == 0;
            if (can && hasBit(told.guests[event], p) && Math.abs(told.offOf(p, now) - off) == change) {
                guests++;
            }
        }
        return guests;
    }

    public int leads(int person) {
        if (!isPerson(person)) {
            return NONE;
        }
        return personsOf(told.offOf(person, now) + 1);
    }

    public boolean see(int event, int days, boolean came) {
        if (!isEvent(event) || !isWithin(days, 1, SIGHT_MOST) || sights >= SIGHTS_MOST) {
            return false;
        }
        int coming = told.lotsComing(event, now.day + days);
        sightLots &= came ? coming : ~coming;
        sights++;
        return true;
    }

    public int lots() {
        return sightLots;
    }

    public int look() {
        int all = Integer.bitCount(sightLots);
        int least = all;
        int found = NONE;
        for (int d = 1; d <= SIGHT_MOST; d++) {
            for (int e = 0; e < told.events; e++) {
                int come = Integer.bitCount(sightLots & told.lotsComing(e, now.day + d));
                int greater = Math.max(come, all - come);
                if (greater < least) {
                    least = greater;
                    found = 8 * d + e;
                }
            }
        }
        return found;
    }

    // ---- what day it is

    private int personsAt(int weekday) {
        boolean white = told.snows(now.day);
        int bits = 0;
        for (int p = 0; p < told.persons; p++) {
            if (told.weekdayTo(p, now, white) == weekday) {
                bits |= 1 << p;
            }
        }
        return bits;
    }

    public int guess() {
        int most = 0;
        int best = NONE;
        for (int weekday = 0; weekday < WEEK_DAYS; weekday++) {
            int believers = Integer.bitCount(personsAt(weekday));
            if (believers > most) {
                most = believers;
                best = weekday;
            }
        }
        return best;
    }

    public int wrong() {
        int guessed = guess();
        if (guessed == NONE) {
            return NOBODY_WRONG;
        }
        return Math.floorMod(guessed - now.day + 3, WEEK_DAYS) - 3;
    }

    public int spread() {
        int days = 0;
        for (int weekday = 0; weekday < WEEK_DAYS; weekday++) {
            if (personsAt(weekday) != 0) {
                days++;
            }
        }
        return days;
    }

    public int pairs() {
        int pairs = 0;
        for (int weekday = 0; weekday < WEEK_DAYS; weekday++) {
            int believers = Integer.bitCount(personsAt(weekday));
            pairs += believers * (believers - 1) / 2;
        }
        return pairs;
    }

    public int right() {
        return personsAt(now.day % WEEK_DAYS);
    }

    public int steady() {
        int most = NONE;
        int steadiest = NONE;
        for (int p = 0; p < told.persons; p++) {
            int days = daysRight(p);
            if (days > most) {
                most = days;
                steadiest = p;
            }
        }
        return steadiest;
    }

    private int daysRight(int person) {
        int days = 0;
        for (int d = 1; d <= SNOW_DAYS; d++) {
            if (told.snows(now.day + d) || told.offOf(person, now) == 0) {
                days++;
            }
        }
        return days;
    }

    // ---- who has met whom

    public int through(int person, int other) {
        if (!isPerson(person) || !isPerson(other)) {
            return NONE;
        }
        int reached = 1 << person;
        for (int steps = 0; steps < PERSONS_MOST; steps++) {
            if (hasBit(reached, other)) {
                return steps;
            }
            reached = withTheirs(reached);
        }
        return NONE;
    }

    private int withTheirs(int persons) {
        int bits = persons;
        for (int p = 0; p < told.persons; p++) {
            if (hasBit(persons, p)) {
                bits |= now.met[p];
            }
        }
        return bits;
    }

    public int wedded() {
        int bits = 0;
        for (int p = 0; p < told.persons; p++) {
            if (Integer.bitCount(now.met[p]) == 1) {
                bits |= 1 << p;
            }
        }
        return bits;
    }

    public int circles() {
        int circles = 0;
        int placed = 0;
        for (int p = 0; p < told.persons; p++) {
            if (!hasBit(placed, p)) {
                circles++;
                placed |= circleOf(p);
            }
        }
        return circles;
    }

    private int circleOf(int person) {
        int circle = 1 << person;
        for (int steps = 1; steps < PERSONS_MOST; steps++) {
            circle = withTheirs(circle);
        }
        return circle;
    }

    public int shared(int person, int other) {
        if (!isPerson(person) || !isPerson(other)) {
            return NONE;
        }
        return told.eventsOf(person) & told.eventsOf(other);
    }

    public int cover() {
        int whole = (1 << told.events) - 1;
        int best = whole;
        for (int set = 0; set < whole; set++) {
            if (Integer.bitCount(set) < Integer.bitCount(best) && told.guestsOf(set) == told.guestsOf(whole)) {
                best = set;
            }
        }
        return best;
    }

    // ---- a well at rest

    public int rests(int lose, int early, int late, int what) throws NoSuchElementException {
        if (!isWithin(lose, 0, STAKE_MOST) || !isWithin(early, 0, STAKE_MOST) || !isWithin(late, 0, STAKE_MOST)) {
            throw new NoSuchElementException("a stake is 0 to 9");
        }
        int found = 0;
        for (int first = 0; first <= 1; first++) {
            for (int second = 0; second <= 1; second++) {
                boolean isRest = staysWith(first, second, lose, early, late)
                        && staysWith(second, first, lose, early, late);
                if (isRest && found == what) {
                    return 2 * first + second;
                }
                if (isRest) {
                    found++;
                }
            }
        }
        if (what == NONE) {
            return found;
        }
        throw new NoSuchElementException("no such rest");
    }

    private static boolean staysWith(int own, int other, int lose, int early, int late) {
        return gain(own, other, lose, early, late) >= gain(1 - own, other, lose, early, late);
    }

    private static int gain(int own, int other, int lose, int early, int late) {
        if (own == 1) {
            return other == 1 ? -lose : early;
        }
        return other == 1 ? late : 0;
    }

    /** The signs that were fed and, while they are read, the token that is at hand. */
    private static final class Tape {
        static final int NOTHING = 0;
        static final int WORD = 1;
        static final int NUMBER = 2;
        static final int SIGN = 3;
        static final int END = 4;

        static final int CANNOT_STAND = 1;
        static final int NOT_TOLD = 2;
        static final int TOLD_ALREADY = 3;
        static final int NOT_AS_TOLD = 4;
        static final int TOO_MANY = 5;

        static final int WORD_MOST = 8;
        static final int DIGITS_MOST = 4;
        static final String SIGNS = "()<=+-*;";
        // A blank ends each word, the last one too: isName compares where it finds one.
        static final String NO_NAMES =
                "person lot event on needs comes snow goes day ask plain widow thief gaoler not and or ";

        final char[] signs;
        int length;
        int kind;
        int place;
        int behind;
        // The letters of the word, a byte each: eight of them fill a long.
        long word;
        int number;
        int fault;

        Tape() {
            signs = new char[TAPE_MOST];
        }

        void append(long eight) {
            for (int shift = 56; shift >= 0; shift -= 8) {
                int sign = (int) (eight >>> shift & 255L);
                boolean fits = sign == 10 || sign >= 32 && sign <= 126;
                if (fits && length < TAPE_MOST) {
                    signs[length] = (char) sign;
                    length++;
                }
            }
        }

        void begin() {
            fault = 0;
            behind = 0;
            step();
        }

        void step() {
            while (behind < length && (signs[behind] == 10 || signs[behind] == 32)) {
                behind++;
            }
            place = behind;
            if (place >= length) {
                kind = END;
            } else if (signs[place] >= 'a' && signs[place] <= 'z') {
                stepWord();
            } else if (signs[place] >= '0' && signs[place] <= '9') {
                stepNumber();
            } else {
                kind = SIGNS.indexOf(signs[place]) >= 0 ? SIGN : NOTHING;
                behind++;
            }
        }

        private void stepWord() {
            word = 0;
            while (behind < length && signs[behind] >= 'a' && signs[behind] <= 'z') {
                word = word << 8 | signs[behind];
                behind++;
            }
            kind = behind - place <= WORD_MOST ? WORD : NOTHING;
        }

        private void stepNumber() {
            number = 0;
            while (behind < length && signs[behind] >= '0' && signs[behind] <= '9') {
                number = number * 10 + (signs[behind] - '0');
                behind++;
            }
            kind = behind - place <= DIGITS_MOST ? NUMBER : NOTHING;
        }

        boolean isWord(String text) {
            if (kind != WORD) {
                return false;
            }
            long packed = 0;
            for (int i = 0; i < text.length(); i++) {
                packed = packed << 8 | text.charAt(i);
            }
            return word == packed;
        }

        boolean isSign(char sign) {
            return kind == SIGN && signs[place] == sign;
        }

        boolean isName() {
            if (kind != WORD) {
                return false;
            }
            long packed = 0;
            for (int i = 0; i < NO_NAMES.length(); i++) {
                if (NO_NAMES.charAt(i) != ' ') {
                    packed = packed << 8 | NO_NAMES.charAt(i);
                } else if (packed == word) {
                    return false;
                } else {
                    packed = 0;
                }
            }
            return true;
        }

        boolean refuse(int kindOfFault) {
            fault = kindOfFault + 16 * place;
            return false;
        }

        boolean takeWord(String text) {
            if (!isWord(text)) {
                return refuse(CANNOT_STAND);
            }
            step();
            return true;
        }

        boolean takeSign(char sign) {
            if (!isSign(sign)) {
                return refuse(CANNOT_STAND);
            }
            step();
            return true;
        }

        /** Whether a NUMBER from least to most is at hand; it stays there, for the caller to keep and step. */
        boolean findNumber(int least, int most) {
            if (kind != NUMBER) {
                return refuse(CANNOT_STAND);
            }
            return isWithin(number, least, most) || refuse(NOT_AS_TOLD);
        }
    }

    /** The E of goes, each part of it behind what it works on, so that it is worked out in one pass. */
    private static final class Law {
        static final int OFF = -1;
        static final int WEEK = -2;
        static final int MET = -3;
        static final int WHITE = -4;
        static final int NOT = -5;
        static final int AND = -6;
        static final int OR = -7;
        static final int LESS = -8;
        static final int EQUAL = -9;
        static final int PLUS = -10;
        static final int MINUS = -11;
        static final int TIMES = -12;
        // Five levels, each with at most four values that wait, and the one at hand: 21 at once.
        static final int STACK_MOST = 32;

        // What is not below 0 is a NUMBER, what is below is one of the above.
        final int[] parts;
        final int[] stack;
        int length;

        Law() {
            parts = new int[TAPE_MOST];
            stack = new int[STACK_MOST];
        }

        void add(int part) {
            if (length < TAPE_MOST) {
                parts[length] = part;
                length++;
            }
        }

        int value(int off, int weeks, int met, int white) {
            int high = 0;
            for (int i = 0; i < length; i++) {
                int part = parts[i];
                if (part >= WHITE && high < STACK_MOST) {
                    stack[high] = part >= 0 ? part : fact(part, off, weeks, met, white);
                    high++;
                } else if (part == NOT && high > 0) {
                    stack[high - 1] = stack[high - 1] == 0 ? 1 : 0;
                } else if (part < NOT && high > 1) {
                    high--;
                    stack[high - 1] = joined(part, stack[high - 1], stack[high]);
                }
            }
            return high > 0 ? stack[0] : 1;
        }

        private static int fact(int part, int off, int weeks, int met, int white) {
            switch (part) {
                case OFF:
                    return off;
                case WEEK:
                    return weeks;
                case MET:
                    return met;
                default:
                    return white;
            }
        }

        private static int joined(int part, int left, int right) {
            switch (part) {
                case AND:
                    return left != 0 && right != 0 ? 1 : 0;
                case OR:
                    return left != 0 || right != 0 ? 1 : 0;
                case LESS:
                    return left < right ? 1 : 0;
                case EQUAL:
                    return left == right ? 1 : 0;
                case PLUS:
                    return left + right;
                case MINUS:
                    return left - right;
                default:
                    return left * right;
            }
        }
    }

    /** Reads a line of goes; each method answers false where it has told the tape a FAULT. */
    private static final class LawReader {
        static final int DEPTH_MOST = 5;

        final Tape tape;

        LawReader(Tape tape) {
            this.tape = tape;
        }

        boolean readGoes(Canton fresh) {
            if (fresh.lawTold) {
                return tape.refuse(Tape.TOLD_ALREADY);
            }
            fresh.lawTold = true;
            tape.step();
            return readLaw(fresh.law, 0) && tape.takeSign(';');
        }

        private boolean readLaw(Law law, int depth) {
            boolean fine = readTest(law, depth);
            for (int i = 0; fine && i < TAPE_MOST; i++) {
                int part = tape.isWord("and") ? Law.AND : tape.isWord("or") ? Law.OR : 0;
                if (part == 0) {
                    return true;
                }
                tape.step();
                fine = readTest(law, depth);
                law.add(part);
            }
            return fine;
        }

        private boolean readTest(Law law, int depth) {
            if (!readSum(law, depth)) {
                return false;
            }
            int part = tape.isSign('<') ? Law.LESS : tape.isSign('=') ? Law.EQUAL : 0;
            if (part == 0) {
                return true;
            }
            tape.step();
            boolean fine = readSum(law, depth);
            law.add(part);
            return fine;
        }

        private boolean readSum(Law law, int depth) {
            boolean fine = readProduct(law, depth);
            for (int i = 0; fine && i < TAPE_MOST; i++) {
                int part = tape.isSign('+') ? Law.PLUS : tape.isSign('-') ? Law.MINUS : 0;
                if (part == 0) {
                    return true;
                }
                tape.step();
                fine = readProduct(law, depth);
                law.add(part);
            }
            return fine;
        }

        private boolean readProduct(Law law, int depth) {
            boolean fine = readPart(law, depth);
            for (int i = 0; fine && i < TAPE_MOST; i++) {
                if (!tape.isSign('*')) {
                    return true;
                }
                tape.step();
                fine = readPart(law, depth);
                law.add(Law.TIMES);
            }
            return fine;
        }

        private boolean readPart(Law law, int depth) {
            int fact = factAtHand();
            boolean isNumber = tape.kind == Tape.NUMBER;
            boolean isNot = tape.isWord("not");
            if (fact == 0 && !isNumber && !isNot && !tape.isSign('(')) {
                return tape.refuse(Tape.CANNOT_STAND);
            }
            if (depth >= DEPTH_MOST) {
                return tape.refuse(Tape.TOO_MANY);
            }
            if (isNumber || fact != 0) {
                law.add(isNumber ? tape.number : fact);
                tape.step();
                return true;
            }
            tape.step();
            if (isNot) {
                boolean fine = readPart(law, depth + 1);
                law.add(Law.NOT);
                return fine;
            }
            return readLaw(law, depth + 1) && tape.takeSign(')');
        }

        private int factAtHand() {
            if (tape.isWord("off")) {
                return Law.OFF;
            }
            if (tape.isWord("week")) {
                return Law.WEEK;
            }
            if (tape.isWord("met")) {
                return Law.MET;
            }
            return tape.isWord("white") ? Law.WHITE : 0;
        }
    }

    /** What a CANTON tells, and by it how a day passes. */
    private static final class Canton {
        static final int PLAIN = 0;
        static final int WIDOW = 1;
        static final int THIEF = 2;
        static final int GAOLER = 3;
        static final int THIEVES_DAY = 1;

        int persons;
        final long[] names;
        final int[] kinds;
        final int[] lots;
        int events;
        final long[] titles;
        final int[] weekdays;
        final int[] needs;
        // Of each EVENT who is to come to it, as bits.
        final int[] guests;
        boolean snowTold;
        int snow;
        boolean lawTold;
        final Law law;

        Canton() {
            names = new long[PERSONS_MOST];
            kinds = new int[PERSONS_MOST];
            lots = new int[PERSONS_MOST];
            titles = new long[EVENTS_MOST];
            weekdays = new int[EVENTS_MOST];
            needs = new int[EVENTS_MOST];
            guests = new int[EVENTS_MOST];
            law = new Law();
        }

        void clear() {
            persons = 0;
            events = 0;
            snowTold = false;
            snow = 0;
            lawTold = false;
            law.length = 0;
        }

        int personNamed(long name) {
            for (int p = 0; p < persons; p++) {
                if (names[p] == name) {
                    return p;
                }
            }
            return NONE;
        }

        int eventNamed(long name) {
            for (int e = 0; e < events; e++) {
                if (titles[e] == name) {
                    return e;
                }
            }
            return NONE;
        }

        boolean snows(int day) {
            return hasBit(snow, day % SNOW_DAYS);
        }

        int offOf(int person, State state) {
            return kinds[person] == GAOLER ? 0 : state.lots[person] - RIGHT_LOT;
        }

        int weekdayTo(int person, State state, boolean white) {
            int off = white ? 0 : offOf(person, state);
            return Math.floorMod(state.day + off, WEEK_DAYS);
        }

        int eventsOf(int person) {
            int bits = 0;
            for (int e = 0; e < events; e++) {
                if (hasBit(guests[e], person)) {
                    bits |= 1 << e;
                }
            }
            return bits;
        }

        int guestsOf(int eventBits) {
            int bits = 0;
            for (int e = 0; e < events; e++) {
                if (hasBit(eventBits, e)) {
                    bits |= guests[e];
                }
            }
            return bits;
        }

        /** The lots by which an unknown plain PERSON, to come to all and always out, COMES, as bits. */
        int lotsComing(int event, int day) {
            int bits = 0;
            for (int lot = 0; lot < LOTS; lot++) {
                int off = snows(day) ? 0 : lot - RIGHT_LOT;
                if (Math.floorMod(day + off, WEEK_DAYS) == weekdays[event]) {
                    bits |= 1 << lot;
                }
            }
            return bits;
        }

        /** The next day of a state: the EVENTS that are HELD, as bits. */
        int passDay(State state, boolean white) {
            state.day++;
            gather(state, white);
            int heldNow = 0;
            for (int e = 0; e < events; e++) {
                state.introduce(state.came[e]);
                if (Integer.bitCount(state.came[e]) >= needs[e]) {
                    state.held[e]++;
                    heldNow |= 1 << e;
                }
            }
            return heldNow;
        }

        // All who come are known before anybody meets: the law looks at whom one met up to the day before.
        private void gather(State state, boolean white) {
            for (int e = 0; e < events; e++) {
                state.came[e] = 0;
            }
            for (int p = 0; p < persons; p++) {
                int drawn = drawing(p, weekdayTo(p, state, white));
                if (drawn != 0 && goesOut(p, state, white)) {
                    for (int e = 0; e < events; e++) {
                        state.came[e] |= (drawn >> e & 1) << p;
                    }
                }
            }
        }

        /** The EVENTS to which a PERSON would COME on what is such a day of the week TO them, as bits. */
        private int drawing(int person, int weekday) {
            int bits = 0;
            for (int e = 0; e < events; e++) {
                if (hasBit(guests[e], person) && isDayOf(kinds[person], weekdays[e], weekday)) {
                    bits |= 1 << e;
                }
            }
            return bits;
        }

        private static boolean isDayOf(int kind, int on, int weekday) {
            if (kind == THIEF && on != THIEVES_DAY) {
                return false;
            }
            return weekday == on || kind == WIDOW && weekday == (on + 1) % WEEK_DAYS;
        }

        private boolean goesOut(int person, State state, boolean white) {
            int known = Integer.bitCount(state.met[person]);
            return law.value(offOf(person, state), state.day / WEEK_DAYS, known, white ? 1 : 0) != 0;
        }
    }

    /** Reads a CANTON; each method answers false where it has told the tape a FAULT. */
    private static final class CantonReader {
        final Tape tape;
        final LawReader lawReader;

        CantonReader(Tape tape) {
            this.tape = tape;
            lawReader = new LawReader(tape);
        }

        int readInto(Canton fresh) {
            fresh.clear();
            tape.begin();
            boolean fine = true;
            for (int i = 0; fine && tape.kind != Tape.END && i < TAPE_MOST; i++) {
                fine = readLine(fresh);
            }
            return tape.fault;
        }

        private boolean readLine(Canton fresh) {
            if (tape.isWord("person")) {
                return readPerson(fresh);
            }
            if (tape.isWord("event")) {
                return readEvent(fresh);
            }
            if (tape.isWord("comes")) {
                return readComes(fresh);
            }
            if (tape.isWord("snow")) {
                return readSnow(fresh);
            }
            if (tape.isWord("goes")) {
                return lawReader.readGoes(fresh);
            }
            return tape.refuse(Tape.CANNOT_STAND);
        }

        private boolean findFreshName(Canton fresh) {
            if (!tape.isName()) {
                return tape.refuse(Tape.CANNOT_STAND);
            }
            boolean isTold = fresh.personNamed(tape.word) != NONE || fresh.eventNamed(tape.word) != NONE;
            return !isTold || tape.refuse(Tape.TOLD_ALREADY);
        }

        private boolean readPerson(Canton fresh) {
            int person = fresh.persons;
            if (person >= PERSONS_MOST) {
                return tape.refuse(Tape.TOO_MANY);
            }
            tape.step();
            if (!findFreshName(fresh)) {
                return false;
            }
            fresh.names[person] = tape.word;
            tape.step();
            int kind = kindAtHand();
            if (kind == NONE) {
                return tape.refuse(Tape.CANNOT_STAND);
            }
            fresh.kinds[person] = kind;
            tape.step();
            if (!tape.takeWord("lot") || !tape.findNumber(0, LOTS - 1)) {
                return false;
            }
            fresh.lots[person] = tape.number;
            tape.step();
            fresh.persons++;
            return tape.takeSign(';');
        }

        private int kindAtHand() {
            if (tape.isWord("plain")) {
                return Canton.PLAIN;
            }
            if (tape.isWord("widow")) {
                return Canton.WIDOW;
            }
            if (tape.isWord("thief")) {
                return Canton.THIEF;
            }
            return tape.isWord("gaoler") ? Canton.GAOLER : NONE;
        }

        private boolean readEvent(Canton fresh) {
            int event = fresh.events;
            if (event >= EVENTS_MOST) {
                return tape.refuse(Tape.TOO_MANY);
            }
            tape.step();
            if (!findFreshName(fresh)) {
                return false;
            }
            fresh.titles[event] = tape.word;
            tape.step();
            if (!tape.takeWord("on") || !tape.findNumber(0, WEEK_DAYS - 1)) {
                return false;
            }
            fresh.weekdays[event] = tape.number;
            tape.step();
            if (!tape.takeWord("needs") || !tape.findNumber(1, NEEDS_MOST)) {
                return false;
            }
            fresh.needs[event] = tape.number;
            fresh.guests[event] = 0;
            tape.step();
            fresh.events++;
            return tape.takeSign(';');
        }

        private boolean readComes(Canton fresh) {
            tape.step();
            if (!tape.isName()) {
                return tape.refuse(Tape.CANNOT_STAND);
            }
            int person = fresh.personNamed(tape.word);
            if (person == NONE) {
                return tape.refuse(Tape.NOT_TOLD);
            }
            tape.step();
            if (!tape.isName()) {
                return tape.refuse(Tape.CANNOT_STAND);
            }
            int event = fresh.eventNamed(tape.word);
            if (event == NONE) {
                return tape.refuse(Tape.NOT_TOLD);
            }
            if (hasBit(fresh.guests[event], person)) {
                return tape.refuse(Tape.TOLD_ALREADY);
            }
            fresh.guests[event] |= 1 << person;
            tape.step();
            return tape.takeSign(';');
        }

        private boolean readSnow(Canton fresh) {
            if (fresh.snowTold) {
                return tape.refuse(Tape.TOLD_ALREADY);
            }
            fresh.snowTold = true;
            tape.step();
            boolean fine = readSnowDay(fresh);
            for (int i = 0; fine && tape.kind == Tape.NUMBER && i < TAPE_MOST; i++) {
                fine = readSnowDay(fresh);
            }
            return fine && tape.takeSign(';');
        }

        // The least kind of FAULT first: a ninth day may be wrong in another way too.
        private boolean readSnowDay(Canton fresh) {
            boolean isDay = tape.kind == Tape.NUMBER && tape.number < SNOW_DAYS;
            if (isDay && fresh.snows(tape.number)) {
                return tape.refuse(Tape.TOLD_ALREADY);
            }
            if (!tape.findNumber(0, SNOW_DAYS - 1)) {
                return false;
            }
            if (Integer.bitCount(fresh.snow) >= SNOWS_MOST) {
                return tape.refuse(Tape.TOO_MANY);
            }
            fresh.snow |= 1 << tape.number;
            tape.step();
            return true;
        }
    }

    /** The lines of a WEEK. */
    private static final class Week {
        static final int DAY = 0;
        static final int LOT = 1;
        static final int ASK = 2;

        final int[] acts;
        final int[] persons;
        final int[] lots;
        int length;

        Week() {
            acts = new int[LINES_MOST];
            persons = new int[LINES_MOST];
            lots = new int[LINES_MOST];
        }
    }

    /** Reads a WEEK; each method answers false where it has told the tape a FAULT. */
    private static final class WeekReader {
        final Tape tape;

        WeekReader(Tape tape) {
            this.tape = tape;
        }

        int readInto(Week fresh, Canton told) {
            fresh.length = 0;
            tape.begin();
            boolean fine = true;
            for (int i = 0; fine && tape.kind != Tape.END && i < TAPE_MOST; i++) {
                fine = readLine(fresh, told);
            }
            return tape.fault;
        }

        private boolean readLine(Week fresh, Canton told) {
            int act = actAtHand();
            if (act == NONE) {
                return tape.refuse(Tape.CANNOT_STAND);
            }
            int at = fresh.length;
            if (at >= LINES_MOST) {
                return tape.refuse(Tape.TOO_MANY);
            }
            fresh.acts[at] = act;
            fresh.persons[at] = 0;
            fresh.lots[at] = 0;
            tape.step();
            if (act != Week.DAY && !readPerson(fresh, told)) {
                return false;
            }
            if (act == Week.LOT && !readLot(fresh)) {
                return false;
            }
            fresh.length++;
            return tape.takeSign(';');
        }

        private int actAtHand() {
            if (tape.isWord("day")) {
                return Week.DAY;
            }
            if (tape.isWord("lot")) {
                return Week.LOT;
            }
            return tape.isWord("ask") ? Week.ASK : NONE;
        }

        private boolean readPerson(Week fresh, Canton told) {
            if (!tape.isName()) {
                return tape.refuse(Tape.CANNOT_STAND);
            }
            int person = told.personNamed(tape.word);
            if (person == NONE) {
                return tape.refuse(Tape.NOT_TOLD);
            }
            fresh.persons[fresh.length] = person;
            tape.step();
            return true;
        }

        private boolean readLot(Week fresh) {
            if (!tape.findNumber(0, LOTS - 1)) {
                return false;
            }
            fresh.lots[fresh.length] = tape.number;
            tape.step();
            return true;
        }
    }

    /** All that UNDO brings back. */
    private static final class State {
        int day;
        int crimes;
        final int[] lots;
        final int[] met;
        final int[] held;
        final int[] came;

        State() {
            lots = new int[PERSONS_MOST];
            met = new int[PERSONS_MOST];
            held = new int[EVENTS_MOST];
            came = new int[EVENTS_MOST];
        }

        void begin(Canton told) {
            day = 0;
            crimes = 0;
            for (int p = 0; p < PERSONS_MOST; p++) {
                lots[p] = told.lots[p];
                met[p] = 0;
            }
            for (int e = 0; e < EVENTS_MOST; e++) {
                held[e] = 0;
                came[e] = 0;
            }
        }

        void copy(State other) {
            day = other.day;
            crimes = other.crimes;
            for (int p = 0; p < PERSONS_MOST; p++) {
                lots[p] = other.lots[p];
                met[p] = other.met[p];
            }
            for (int e = 0; e < EVENTS_MOST; e++) {
                held[e] = other.held[e];
                came[e] = other.came[e];
            }
        }

        void answer(int person) {
            lots[person] = RIGHT_LOT;
            crimes++;
        }

        void introduce(int persons) {
            for (int p = 0; p < PERSONS_MOST; p++) {
                if (hasBit(persons, p)) {
                    met[p] |= persons & ~(1 << p);
                }
            }
        }

        /** Those who, on this day, did not come to just what a PERSON came to, as bits. */
        int othersThan(int person) {
            int bits = 0;
            for (int e = 0; e < EVENTS_MOST; e++) {
                bits |= hasBit(came[e], person) ? ~came[e] : came[e];
            }
            return bits;
        }

        int heldInAll() {
            int times = 0;
            for (int e = 0; e < EVENTS_MOST; e++) {
                times += held[e];
            }
            return times;
        }

        int pairsMet() {
            int both = 0;
            for (int p = 0; p < PERSONS_MOST; p++) {
                both += Integer.bitCount(met[p]);
            }
            return both / 2;
        }

        /** How many COMES there are, to each EVENT. */
        int comings() {
            int comings = 0;
            for (int e = 0; e < EVENTS_MOST; e++) {
                comings += Integer.bitCount(came[e]);
            }
            return comings;
        }
    }

    /** The states ahead of the last things that were done, in a ring. */
    private static final class History {
        final State[] ring;
        int newest;
        int length;

        History() {
            ring = new State[UNDO_MOST];
            for (int i = 0; i < UNDO_MOST; i++) {
                ring[i] = new State();
            }
        }

        void keep(State state) {
            newest = (newest + 1) % UNDO_MOST;
            ring[newest].copy(state);
            length = Math.min(length + 1, UNDO_MOST);
        }

        boolean bringBack(State state) {
            if (length == 0) {
                return false;
            }
            state.copy(ring[newest]);
            newest = (newest + UNDO_MOST - 1) % UNDO_MOST;
            length--;
            return true;
        }
    }

    /** What a MARK holds. */
    private static final class Mark {
        boolean laid;
        final State state;
        int sights;
        int sightLots;

        Mark() {
            state = new State();
        }

        void lay(State now, int sightsThen, int lotsThen) {
            laid = true;
            state.copy(now);
            sights = sightsThen;
            sightLots = lotsThen;
        }
    }
}
