import java.math.BigInteger;
import java.util.ArrayDeque;
import java.util.ArrayList;
import java.util.Arrays;
import java.util.Deque;
import java.util.HashSet;
import java.util.List;
import java.util.Set;
import java.util.TreeSet;
import java.util.function.ToIntFunction;
import java.util.regex.Matcher;
import java.util.regex.Pattern;

/**
 * The document once more, written apart from MistCanton and by brute force where it can be:
 * ModelTest holds the two against each other.
 */
final class Model {
    static final class Fault extends Exception {
        private static final long serialVersionUID = 1L;
        final int number;

        Fault(int kind, int place) {
            number = kind + 16 * place;
        }
    }

    record Token(char kind, String text, int place) {
    }

    record Facts(int off, int week, int met, int white) {
    }

    record Person(String name, int kind, int lot) {
    }

    record Event(String name, int on, int needs) {
    }

    record Line(String act, int person, int lot) {
    }

    static final class Told {
        final List<Person> persons = new ArrayList<>();
        final List<Event> events = new ArrayList<>();
        final Set<List<Integer>> comes = new HashSet<>();
        Set<Integer> snow;
        ToIntFunction<Facts> goes;
    }

    static final class Times implements Cloneable {
        int day;
        int crimes;
        int[] lots;
        int[] held;
        boolean[][] met;
        boolean[][] came;

        Times(Told told) {
            lots = told.persons.stream().mapToInt(Person::lot).toArray();
            held = new int[told.events.size()];
            met = new boolean[lots.length][lots.length];
            came = new boolean[held.length][lots.length];
        }

        Times twin() {
            try {
                Times t = (Times) clone();
                t.lots = lots.clone();
                t.held = held.clone();
                t.met = Arrays.stream(met).map(boolean[]::clone).toArray(boolean[][]::new);
                t.came = Arrays.stream(came).map(boolean[]::clone).toArray(boolean[][]::new);
                return t;
            } catch (CloneNotSupportedException e) {
                throw new AssertionError(e);
            }
        }
    }

    record Sight(int event, int day, boolean came) {
    }

    record Mark(Times times, List<Sight> seen) {
    }

    private static final Set<String> NO_NAMES = Set.of("person", "lot", "event", "on", "needs", "comes", "snow", "goes",
            "day", "ask", "plain", "widow", "thief", "gaoler", "not", "and", "or");
    private static final List<String> KINDS = List.of("plain", "widow", "thief", "gaoler");

    private String tape = "";
    private Told told = new Told();
    private Times times = new Times(told);
    private List<Line> week = List.of();
    private List<Sight> seen = new ArrayList<>();
    private final Deque<Times> undo = new ArrayDeque<>();
    private final Mark[] marks = new Mark[4];

    // ---- reading

    private List<Token> tokens;
    private int at;

    private void tokenize(String text) {
        tokens = new ArrayList<>();
        at = 0;
        Matcher m = Pattern.compile("[a-z]+|[0-9]+|[^ \n]").matcher(text);
        while (m.find()) {
            String t = m.group();
            char kind = '?';
            if (t.matches("[a-z]{1,8}")) {
                kind = 'w';
            } else if (t.matches("[0-9]{1,4}")) {
                kind = 'n';
            } else if (t.matches("[()<=+*;-]")) {
                kind = t.charAt(0);
            }
            tokens.add(new Token(kind, t, m.start()));
        }
        tokens.add(new Token('e', "", text.length()));
    }

    private Token here() {
        return tokens.get(at);
    }

    private boolean isHere(String text) {
        return here().kind() != '?' && here().kind() != 'e' && here().text().equals(text);
    }

    private void fail(int kind) throws Fault {
        throw new Fault(kind, here().place());
    }

    private void expect(String text) throws Fault {
        if (!isHere(text)) {
            fail(1);
        }
        at++;
    }

    private int number(int least, int most) throws Fault {
        if (here().kind() != 'n') {
            fail(1);
        }
        int n = Integer.parseInt(here().text());
        if (n < least || n > most) {
            fail(4);
        }
        at++;
        return n;
    }

    private String name() throws Fault {
        if (here().kind() != 'w' || NO_NAMES.contains(here().text())) {
            fail(1);
        }
        return here().text();
    }

    private static int find(List<String> names, String name) {
        return names.indexOf(name);
    }

    private static List<String> personNames(Told t) {
        return t.persons.stream().map(Person::name).toList();
    }

    private static List<String> eventNames(Told t) {
        return t.events.stream().map(Event::name).toList();
    }

    private String freshName(Told t) throws Fault {
        String name = name();
        if (personNames(t).contains(name) || eventNames(t).contains(name)) {
            fail(3);
        }
        at++;
        return name;
    }

    private int knownPerson(Told t) throws Fault {
        int p = find(personNames(t), name());
        if (p < 0) {
            fail(2);
        }
        at++;
        return p;
    }

    private Told readCanton(String text) throws Fault {
        tokenize(text);
        Told t = new Told();
        while (here().kind() != 'e') {
            if (isHere("person")) {
                if (t.persons.size() == 6) {
                    fail(5);
                }
                at++;
                String name = freshName(t);
                int kind = here().kind() == 'w' ? KINDS.indexOf(here().text()) : -1;
                if (kind < 0) {
                    fail(1);
                }
                at++;
                expect("lot");
                t.persons.add(new Person(name, kind, number(0, 4)));
            } else if (isHere("event")) {
                if (t.events.size() == 5) {
                    fail(5);
                }
                at++;
                String name = freshName(t);
                expect("on");
                int on = number(0, 6);
                expect("needs");
                t.events.add(new Event(name, on, number(1, 6)));
            } else if (isHere("comes")) {
                at++;
                int p = knownPerson(t);
                int e = find(eventNames(t), name());
                if (e < 0) {
                    fail(2);
                }
                if (!t.comes.add(List.of(p, e))) {
                    fail(3);
                }
                at++;
            } else if (isHere("snow")) {
                readSnow(t);
            } else if (isHere("goes")) {
                if (t.goes != null) {
                    fail(3);
                }
                at++;
                t.goes = readE(0);
            } else {
                fail(1);
            }
            expect(";");
        }
        return t;
    }

    private void readSnow(Told t) throws Fault {
        if (t.snow != null) {
            fail(3);
        }
        t.snow = new HashSet<>();
        at++;
        if (here().kind() != 'n') {
            fail(1);
        }
        while (here().kind() == 'n') {
            int n = Integer.parseInt(here().text());
            TreeSet<Integer> kinds = new TreeSet<>();
            if (t.snow.contains(n)) {
                kinds.add(3);
            }
            if (n > 27) {
                kinds.add(4);
            }
            if (t.snow.size() == 8) {
                kinds.add(5);
            }
            if (!kinds.isEmpty()) {
                fail(kinds.first());
            }
            t.snow.add(n);
            at++;
        }
    }

    private List<Line> readWeek(String text) throws Fault {
        tokenize(text);
        List<Line> lines = new ArrayList<>();
        while (here().kind() != 'e') {
            String act = here().text();
            if (here().kind() != 'w' || !List.of("day", "lot", "ask").contains(act)) {
                fail(1);
            }
            if (lines.size() == 40) {
                fail(5);
            }
            at++;
            int p = act.equals("day") ? -1 : knownPerson(told);
            int lot = act.equals("lot") ? number(0, 4) : -1;
            lines.add(new Line(act, p, lot));
            expect(";");
        }
        return lines;
    }

    private static int bit(boolean b) {
        return b ? 1 : 0;
    }

    private ToIntFunction<Facts> readE(int within) throws Fault {
        ToIntFunction<Facts> sum = readTest(within);
        while (isHere("and") || isHere("or")) {
            boolean and = isHere("and");
            at++;
            ToIntFunction<Facts> left = sum;
            ToIntFunction<Facts> right = readTest(within);
            sum = f -> {
                boolean l = left.applyAsInt(f) != 0;
                boolean r = right.applyAsInt(f) != 0;
                return bit(and ? l && r : l || r);
            };
        }
        return sum;
    }

    private ToIntFunction<Facts> readTest(int within) throws Fault {
        ToIntFunction<Facts> left = readSum(within);
        if (isHere("<")) {
            at++;
            ToIntFunction<Facts> right = readSum(within);
            return f -> bit(left.applyAsInt(f) < right.applyAsInt(f));
        }
        if (isHere("=")) {
            at++;
            ToIntFunction<Facts> right = readSum(within);
            return f -> bit(left.applyAsInt(f) == right.applyAsInt(f));
        }
        return left;
    }

    private ToIntFunction<Facts> readSum(int within) throws Fault {
        ToIntFunction<Facts> sum = readProduct(within);
        while (isHere("+") || isHere("-")) {
            int sign = isHere("+") ? 1 : -1;
            at++;
            ToIntFunction<Facts> left = sum;
            ToIntFunction<Facts> right = readProduct(within);
            sum = f -> left.applyAsInt(f) + sign * right.applyAsInt(f);
        }
        return sum;
    }

    private ToIntFunction<Facts> readProduct(int within) throws Fault {
        ToIntFunction<Facts> product = readPart(within);
        while (isHere("*")) {
            at++;
            ToIntFunction<Facts> left = product;
            ToIntFunction<Facts> right = readPart(within);
            product = f -> left.applyAsInt(f) * right.applyAsInt(f);
        }
        return product;
    }

    private ToIntFunction<Facts> readPart(int within) throws Fault {
        Token t = here();
        boolean can = t.kind() == 'n' || t.kind() == '('
                || t.kind() == 'w' && List.of("off", "week", "met", "white", "not").contains(t.text());
        if (!can) {
            fail(1);
        }
        if (within == 5) {
            fail(5);
        }
        at++;
        if (t.kind() == 'n') {
            int n = Integer.parseInt(t.text());
            return f -> n;
        }
        if (t.kind() == '(') {
            ToIntFunction<Facts> inner = readE(within + 1);
            expect(")");
            return inner;
        }
        switch (t.text()) {
            case "off":
                return Facts::off;
            case "week":
                return Facts::week;
            case "met":
                return Facts::met;
            case "white":
                return Facts::white;
            default:
                ToIntFunction<Facts> inner = readPart(within + 1);
                return f -> bit(inner.applyAsInt(f) == 0);
        }
    }

    // ---- days

    private boolean snows(int day) {
        return told.snow != null && told.snow.contains(day % 28);
    }

    private int off(Times t, int p) {
        return told.persons.get(p).kind() == 3 ? 0 : t.lots[p] - 2;
    }

    private int dayTo(Times t, int p, int day, boolean white) {
        return (day + 14 + (white ? 0 : off(t, p))) % 7;
    }

    private boolean comes(Times t, int p, int on, int e, boolean white) {
        if (!told.comes.contains(List.of(p, e))) {
            return false;
        }
        int kind = told.persons.get(p).kind();
        int is = dayTo(t, p, t.day, white);
        boolean rightDay = is == on || kind == 1 && is == (on == 6 ? 0 : on + 1);
        if (!rightDay || kind == 2 && on != 1) {
            return false;
        }
        int known = 0;
        for (boolean m : t.met[p]) {
            known += bit(m);
        }
        return told.goes == null || told.goes.applyAsInt(new Facts(off(t, p), t.day / 7, known, bit(white))) != 0;
    }

    /** The next day; moved is the EVENT that is on another day of the week, or none. */
    private int pass(Times t, boolean white, int moved, int movedTo) {
        t.day++;
        boolean[][] came = new boolean[persons() == 0 && events() == 0 ? 0 : events()][persons()];
        for (int e = 0; e < events(); e++) {
            for (int p = 0; p < persons(); p++) {
                came[e][p] = comes(t, p, e == moved ? movedTo : told.events.get(e).on(), e, white);
            }
        }
        int bits = 0;
        for (int e = 0; e < events(); e++) {
            if (Integer.bitCount(bits(came[e])) >= told.events.get(e).needs()) {
                t.held[e]++;
                bits |= 1 << e;
            }
            for (int p = 0; p < persons(); p++) {
                for (int q = 0; q < persons(); q++) {
                    t.met[p][q] |= p != q && came[e][p] && came[e][q];
                }
            }
        }
        t.came = came;
        return bits;
    }

    private int pass(Times t) {
        return pass(t, snows(t.day + 1), -1, 0);
    }

    private static int bits(boolean[] row) {
        int bits = 0;
        for (int i = 0; i < row.length; i++) {
            bits |= bit(row[i]) << i;
        }
        return bits;
    }

    private int persons() {
        return told.persons.size();
    }

    private int events() {
        return told.events.size();
    }

    private boolean isPerson(long p) {
        return p >= 0 && p < persons();
    }

    private boolean isEvent(long e) {
        return e >= 0 && e < events();
    }

    private static boolean in(long n, int low, int high) {
        return n >= low && n <= high;
    }

    private static int pairsMet(Times t) {
        int n = 0;
        for (boolean[] row : t.met) {
            n += Integer.bitCount(bits(row));
        }
        return n / 2;
    }

    private static int heldAll(Times t) {
        return Arrays.stream(t.held).sum();
    }

    /** All of the days to come, with nothing else being done: days.get(0) is now. */
    private List<Times> ahead(int days) {
        List<Times> list = new ArrayList<>();
        list.add(times.twin());
        for (int d = 1; d <= days; d++) {
            Times t = list.get(d - 1).twin();
            pass(t);
            list.add(t);
        }
        return list;
    }

    private List<Integer> heldDays(int event, int days) {
        List<Times> list = ahead(days);
        List<Integer> found = new ArrayList<>();
        for (int d = 1; d <= days; d++) {
            if (list.get(d).held[event] > list.get(d - 1).held[event]) {
                found.add(d);
            }
        }
        return found;
    }

    private void keep() {
        undo.addLast(times.twin());
        if (undo.size() > 16) {
            undo.removeFirst();
        }
    }

    private int toCome(int event) {
        int bits = 0;
        for (int p = 0; p < persons(); p++) {
            bits |= bit(told.comes.contains(List.of(p, event))) << p;
        }
        return bits;
    }

    private int eventsOf(int person) {
        int bits = 0;
        for (int e = 0; e < events(); e++) {
            bits |= bit(told.comes.contains(List.of(person, e))) << e;
        }
        return bits;
    }

    // ---- the calls

    /** A text, fed to the tape and read. */
    String read(String text, String method) {
        for (long[] three : Check.feeds(text)) {
            call("feed", three);
        }
        return call(method, new long[0]);
    }

    /** What a call answers, as a text; booleans are numbers, 1 and 0. */
    String call(String method, long[] a) {
        Integer n = callFirst(method, a);
        if (n == null) {
            n = callSecond(method, a);
        }
        if (n == null) {
            n = callThird(method, a);
        }
        return n == null ? "throws.NoSuchElementException" : n.toString();
    }

    private Integer callFirst(String method, long[] a) {
        switch (method) {
            case "feed":
                return feed(a);
            case "canton":
                return canton();
            case "week":
                return week();
            case "person":
                return person(a[0], a[1]);
            case "event":
                return event(a[0], a[1]);
            case "count":
                return count(a[0]);
            case "day":
                keep();
                return pass(times);
            case "lot":
                if (!isPerson(a[0]) || !in(a[1], 0, 4)) {
                    return -1;
                }
                keep();
                int before = times.lots[(int) a[0]];
                times.lots[(int) a[0]] = (int) a[1];
                return before;
            case "ask":
                if (!isPerson(a[0])) {
                    return -1;
                }
                keep();
                times.lots[(int) a[0]] = 2;
                return ++times.crimes;
            case "undo":
                if (undo.isEmpty()) {
                    return 0;
                }
                times = undo.removeLast();
                return 1;
            case "judged":
                return judged(a[0]);
            case "mark":
                return mark(a[0], a[1] != 0);
            default:
                return null;
        }
    }

    private int feed(long[] a) {
        StringBuilder s = new StringBuilder(tape);
        for (long l : a) {
            for (byte b : java.nio.ByteBuffer.allocate(8).putLong(l).array()) {
                if ((b == 10 || b >= 32 && b != 127) && s.length() < 1000) {
                    s.append((char) b);
                }
            }
        }
        tape = s.toString();
        return tape.length();
    }

    private int canton() {
        String text = tape;
        tape = "";
        try {
            told = readCanton(text);
        } catch (Fault f) {
            return f.number;
        }
        times = new Times(told);
        week = List.of();
        seen = new ArrayList<>();
        undo.clear();
        Arrays.fill(marks, null);
        return 0;
    }

    private int week() {
        String text = tape;
        tape = "";
        try {
            week = readWeek(text);
        } catch (Fault f) {
            return f.number;
        }
        return 0;
    }

    private int person(long p, long what) {
        if (!isPerson(p) || !in(what, 0, 4)) {
            return -2;
        }
        int i = (int) p;
        int[] all = {told.persons.get(i).kind(), times.lots[i], dayTo(times, i, times.day, snows(times.day)),
                eventsOf(i), bits(times.met[i])};
        return all[(int) what];
    }

    private int event(long e, long what) {
        if (!isEvent(e) || !in(what, 0, 4)) {
            return -2;
        }
        int i = (int) e;
        int[] all = {told.events.get(i).on(), told.events.get(i).needs(), toCome(i), times.held[i],
                bits(times.came[i])};
        return all[(int) what];
    }

    private int count(long what) {
        int[] all = {persons(), events(), times.day, times.day % 7, bit(snows(times.day)), heldAll(times),
                pairsMet(times), times.crimes, week.size(), seen.size(), undo.size(), tape.length()};
        return in(what, 0, all.length - 1) ? all[(int) what] : -1;
    }

    private int judged(long what) {
        if (!in(what, 0, 2)) {
            return -2;
        }
        Times t = new Times(told);
        int held = -1;
        int met = -1;
        for (int i = week.size() - 1; i >= 0; i--) {
            t = new Times(told);
            for (Line line : week.subList(0, i + 1)) {
                if (line.act().equals("day")) {
                    pass(t);
                } else {
                    t.lots[line.person()] = line.act().equals("ask") ? 2 : line.lot();
                }
            }
            held = heldAll(t) > 0 ? i : held;
            met = pairsMet(t) > 0 ? i : met;
            if (what == 2) {
                return heldAll(t);
            }
        }
        return what == 2 ? 0 : what == 0 ? held : met;
    }

    private int mark(long mark, boolean back) {
        if (!in(mark, 0, 3)) {
            return 0;
        }
        if (!back) {
            marks[(int) mark] = new Mark(times.twin(), List.copyOf(seen));
            return 1;
        }
        Mark m = marks[(int) mark];
        if (m == null) {
            return 0;
        }
        times = m.times().twin();
        seen = new ArrayList<>(m.seen());
        undo.clear();
        return 1;
    }

    private Integer callSecond(String method, long[] a) {
        switch (method) {
            case "attends":
                return isEvent(a[0]) && in(a[1], 1, 60) ? bits(ahead((int) a[1]).get((int) a[1]).came[(int) a[0]]) : -1;
            case "next":
                return nextDay(a[0], a[1]);
            case "quorum":
                return isEvent(a[0]) ? heldDays((int) a[0], 60).stream().findFirst().orElse(-1) : -1;
            case "held":
                return isEvent(a[0]) && in(a[1], 1, 60) ? heldDays((int) a[0], (int) a[1]).size() : -1;
            case "last":
                return isEvent(a[0]) ? heldDays((int) a[0], 60).stream().reduce((x, y) -> y).orElse(-1) : -1;
            case "meet":
                return meet(a[0], a[1]);
            case "idle":
                return in(a[0], 1, 60) ? (int) ahead((int) a[0]).stream().skip(1)
                        .filter(t -> Arrays.stream(t.came).allMatch(row -> bits(row) == 0)).count() : -1;
            case "busy":
                return busy();
            case "family":
                return isEvent(a[0]) ? (int) ahead(7).stream().skip(1)
                        .filter(t -> bits(t.came[(int) a[0]]) != 0).count() : -1;
            case "lonely":
                Times end = ahead(60).get(60);
                int alone = 0;
                for (int p = 0; p < persons(); p++) {
                    alone |= bit(bits(end.met[p]) == 0) << p;
                }
                return alone;
            case "move":
                return isEvent(a[0]) ? move((int) a[0]) : -1;
            case "twins":
                return twins();
            case "chance":
                return chance(a[0], a[1], a[2]);
            case "years":
                return years(a[0], a[1], a[2]);
            case "rests":
                return rests(a);
            default:
                return null;
        }
    }

    private int nextDay(long p, long e) {
        if (!isPerson(p) || !isEvent(e)) {
            return -1;
        }
        List<Times> list = ahead(60);
        for (int d = 1; d <= 60; d++) {
            if (list.get(d).came[(int) e][(int) p]) {
                return d;
            }
        }
        return -1;
    }

    private int meet(long p, long q) {
        if (!isPerson(p) || !isPerson(q) || p == q) {
            return -1;
        }
        List<Times> list = ahead(60);
        for (int d = 0; d <= 60; d++) {
            if (list.get(d).met[(int) q][(int) p]) {
                return d;
            }
        }
        return -1;
    }

    private int busy() {
        List<Times> list = ahead(7);
        int best = -1;
        int most = 0;
        for (int d = 7; d >= 1; d--) {
            int n = Arrays.stream(list.get(d).came).mapToInt(row -> Integer.bitCount(bits(row))).sum();
            if (n > 0 && n >= most) {
                most = n;
                best = d;
            }
        }
        return best;
    }

    private int move(int e) {
        int best = 0;
        int most = -1;
        for (int on = 0; on < 7; on++) {
            Times t = times.twin();
            int n = 0;
            for (int d = 0; d < 28; d++) {
                n += pass(t, snows(t.day + 1), e, on) >> e & 1;
            }
            if (n > most) {
                most = n;
                best = on;
            }
        }
        return best;
    }

    private int twins() {
        List<String> diaries = new ArrayList<>();
        List<Times> list = ahead(28);
        for (int p = 0; p < persons(); p++) {
            StringBuilder diary = new StringBuilder();
            for (Times t : list.subList(1, 29)) {
                for (boolean[] row : t.came) {
                    diary.append(row[p]).append(' ');
                }
            }
            diaries.add(diary.toString());
        }
        int pairs = 0;
        for (int p = 0; p < persons(); p++) {
            for (int q = p + 1; q < persons(); q++) {
                pairs += bit(diaries.get(p).equals(diaries.get(q)));
            }
        }
        return pairs;
    }

    private BigInteger heldWays(Times t, int e, int days, int odds) {
        if (days == 0) {
            return BigInteger.ZERO;
        }
        BigInteger sum = BigInteger.ZERO;
        for (int white = 0; white <= 1; white++) {
            Times u = t.twin();
            boolean held = (pass(u, white == 1, -1, 0) >> e & 1) == 1;
            BigInteger ways = held ? BigInteger.TEN.pow(days - 1) : heldWays(u, e, days - 1, odds);
            sum = sum.add(ways.multiply(BigInteger.valueOf(white == 1 ? odds : 10 - odds)));
        }
        return sum;
    }

    private int chance(long e, long days, long odds) {
        if (!isEvent(e) || !in(days, 1, 6) || !in(odds, 0, 10)) {
            return -1;
        }
        return heldWays(times, (int) e, (int) days, (int) odds).multiply(BigInteger.valueOf(1_000_000))
                .divide(BigInteger.TEN.pow((int) days)).intValueExact();
    }

    private BigInteger g;

    private int draw(int m) {
        g = g.multiply(BigInteger.valueOf(1103515245)).add(BigInteger.valueOf(12345))
                .mod(BigInteger.valueOf(2147483648L));
        return g.divide(BigInteger.valueOf(65536)).mod(BigInteger.valueOf(m)).intValue();
    }

    private int years(long seed, long days, long what) {
        if (!in(seed, 0, 9999) || !in(days, 1, 99) || !in(what, 0, 2)) {
            return -1;
        }
        g = BigInteger.valueOf(seed);
        Times t = times.twin();
        int held = 0;
        for (int d = 0; d < days; d++) {
            int act = persons() > 0 ? draw(6) : 2;
            if (act == 0) {
                int p = draw(persons());
                t.lots[p] = draw(5);
            } else if (act == 1) {
                t.lots[draw(persons())] = 2;
                t.crimes++;
            }
            held += Integer.bitCount(pass(t));
        }
        return what == 0 ? held : what == 1 ? pairsMet(t) : t.crimes;
    }

    private static Integer rests(long[] a) {
        if (!in(a[0], 0, 9) || !in(a[1], 0, 9) || !in(a[2], 0, 9)) {
            return null;
        }
        // By own choice, then the other's: late is 0.
        long[][] gets = {{0, a[2]}, {a[1], -a[0]}};
        List<Integer> found = new ArrayList<>();
        for (int both = 0; both < 4; both++) {
            int x = both / 2;
            int y = both % 2;
            if (gets[x][y] >= gets[1 - x][y] && gets[y][x] >= gets[1 - y][x]) {
                found.add(both);
            }
        }
        if (a[3] == -1) {
            return found.size();
        }
        return in(a[3], 0, found.size() - 1) ? found.get((int) a[3]) : null;
    }

    private Integer callThird(String method, long[] a) {
        switch (method) {
            case "group":
                return isEvent(a[0]) ? group((int) a[0]) : -1;
            case "least":
                return isEvent(a[0]) && in(a[1], 0, 1) ? least((int) a[0], (int) a[1]) : -3;
            case "see":
                if (!isEvent(a[0]) || !in(a[1], 1, 28) || seen.size() == 8) {
                    return 0;
                }
                seen.add(new Sight((int) a[0], times.day + (int) a[1], a[2] != 0));
                return 1;
            case "lots":
                return lots();
            case "look":
                return look();
            case "guess":
                return guess();
            case "wrong":
                int guess = guess();
                if (guess < 0) {
                    return -4;
                }
                int by = guess - times.day % 7;
                return by > 3 ? by - 7 : by < -3 ? by + 7 : by;
            case "leads":
                return isPerson(a[0]) ? ofOff(off(times, (int) a[0]) + 1) : -1;
            case "spread":
                return (int) dayCounts().stream().filter(n -> n > 0).count();
            case "pairs":
                return dayCounts().stream().mapToInt(n -> n * (n - 1) / 2).sum();
            case "through":
                return isPerson(a[0]) && isPerson(a[1]) ? steps()[(int) a[0]][(int) a[1]] : -1;
            case "wedded":
                return wedded();
            case "circles":
                return circles();
            case "cover":
                return cover();
            case "shared":
                return isPerson(a[0]) && isPerson(a[1]) ? eventsOf((int) a[0]) & eventsOf((int) a[1]) : -1;
            case "right":
                return right();
            case "steady":
                return steady();
            default:
                return null;
        }
    }

    private int ofOff(int off) {
        int bits = 0;
        for (int p = 0; p < persons(); p++) {
            bits |= bit(off(times, p) == off) << p;
        }
        return bits;
    }

    private int group(int e) {
        int best = ofOff(2) & toCome(e);
        for (int off = 1; off >= -2; off--) {
            int bits = ofOff(off) & toCome(e);
            if (Integer.bitCount(bits) >= Integer.bitCount(best)) {
                best = bits;
            }
        }
        return best;
    }

    /** Tries all ways of telling lots anew. */
    private int least(int e, int what) {
        int[] best = {Integer.MAX_VALUE, 0};
        tryLots(e, times.twin(), 0, best);
        return best[0] == Integer.MAX_VALUE ? -3 : best[what];
    }

    private void tryLots(int e, Times t, int p, int[] best) {
        if (p < persons()) {
            int kept = t.lots[p];
            for (int lot = 0; lot < 5; lot++) {
                t.lots[p] = lot;
                tryLots(e, t, p + 1, best);
            }
            t.lots[p] = kept;
            return;
        }
        int cost = 0;
        for (int q = 0; q < persons(); q++) {
            cost += Math.abs(t.lots[q] - times.lots[q]);
        }
        for (int off = -2; off <= 2; off++) {
            int n = 0;
            for (int q = 0; q < persons(); q++) {
                n += bit(off(t, q) == off && told.comes.contains(List.of(q, e)));
            }
            if (n >= told.events.get(e).needs() && (cost < best[0] || cost == best[0] && off < best[1])) {
                best[0] = cost;
                best[1] = off;
            }
        }
    }

    private boolean lotComes(int lot, int e, int day) {
        return (day + 7 + (snows(day) ? 0 : lot - 2)) % 7 == told.events.get(e).on();
    }

    private int lots() {
        int bits = 0;
        for (int lot = 0; lot < 5; lot++) {
            int l = lot;
            bits |= bit(seen.stream().allMatch(s -> lotComes(l, s.event(), s.day()) == s.came())) << lot;
        }
        return bits;
    }

    private int look() {
        int all = Integer.bitCount(lots());
        for (int aim = 0; aim < all; aim++) {
            for (int d = 1; d <= 28; d++) {
                for (int e = 0; e < events(); e++) {
                    int n = 0;
                    for (int lot = 0; lot < 5; lot++) {
                        n += bit((lots() >> lot & 1) == 1 && lotComes(lot, e, times.day + d));
                    }
                    if (Math.max(n, all - n) == aim) {
                        return 8 * d + e;
                    }
                }
            }
        }
        return -1;
    }

    private List<Integer> dayCounts() {
        Integer[] n = {0, 0, 0, 0, 0, 0, 0};
        for (int p = 0; p < persons(); p++) {
            n[dayTo(times, p, times.day, snows(times.day))]++;
        }
        return List.of(n);
    }

    private int guess() {
        return persons() == 0 ? -1 : dayCounts().indexOf(dayCounts().stream().max(Integer::compare).orElseThrow());
    }

    private int[][] steps() {
        int n = persons();
        int[][] s = new int[n][n];
        for (int p = 0; p < n; p++) {
            for (int q = 0; q < n; q++) {
                s[p][q] = p == q ? 0 : times.met[p][q] ? 1 : 99;
            }
        }
        for (int k = 0; k < n; k++) {
            for (int p = 0; p < n; p++) {
                for (int q = 0; q < n; q++) {
                    s[p][q] = Math.min(s[p][q], s[p][k] + s[k][q]);
                }
            }
        }
        for (int[] row : s) {
            for (int q = 0; q < n; q++) {
                row[q] = row[q] > 10 ? -1 : row[q];
            }
        }
        return s;
    }

    private int wedded() {
        int bits = 0;
        for (int p = 0; p < persons(); p++) {
            bits |= bit(Integer.bitCount(bits(times.met[p])) == 1) << p;
        }
        return bits;
    }

    private int circles() {
        Set<String> circles = new HashSet<>();
        for (int[] row : steps()) {
            StringBuilder s = new StringBuilder();
            for (int n : row) {
                s.append(n >= 0);
            }
            circles.add(s.toString());
        }
        return circles.size();
    }

    private int cover() {
        for (int size = 0; size <= events(); size++) {
            for (int set = 0; set < 1 << events(); set++) {
                boolean all = Integer.bitCount(set) == size;
                for (int p = 0; p < persons(); p++) {
                    all &= eventsOf(p) == 0 || (eventsOf(p) & set) != 0;
                }
                if (all) {
                    return set;
                }
            }
        }
        throw new AssertionError();
    }

    private boolean isRight(int p, int day) {
        return dayTo(times, p, day, snows(day)) == day % 7;
    }

    private int right() {
        int bits = 0;
        for (int p = 0; p < persons(); p++) {
            bits |= bit(isRight(p, times.day)) << p;
        }
        return bits;
    }

    private int steady() {
        int best = -1;
        int most = -1;
        for (int p = 0; p < persons(); p++) {
            int n = 0;
            for (int d = 1; d <= 28; d++) {
                n += bit(isRight(p, times.day + d));
            }
            if (n > most) {
                most = n;
                best = p;
            }
        }
        return best;
    }
}
