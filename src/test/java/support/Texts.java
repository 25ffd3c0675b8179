import java.util.ArrayList;
import java.util.List;
import java.util.Random;

/** Texts of cantons and weeks by draws: good ones, and ones with something wrong. */
final class Texts {
    private static final String[] NAMES = {"ann", "bob", "cid", "dan", "eve", "fay", "mass", "fair", "vote", "week",
            "off", "met", "white", "abcdefgh", "z"};
    private static final String[] KINDS = {"plain", "plain", "widow", "thief", "gaoler"};
    private static final String[] ODD = {";", "(", ")", "<", "=", "+", "-", "*", "not", "and", "or", "person", "event",
            "comes", "snow", "goes", "day", "lot", "ask", "on", "needs", "0", "1", "7", "28", "9999", "12345", "0004",
            "abcdefghi", "ann", "mass", "zzz", "!", "A", "5ann", "ann5", "plain", "off", "week", ""};

    private final Random draws;
    private List<String> persons = List.of();

    Texts(Random draws) {
        this.draws = draws;
    }

    private int below(int m) {
        return draws.nextInt(m);
    }

    /** Most often the name of a PERSON of the canton that was made last. */
    private String name() {
        return persons.isEmpty() || below(300) == 0 ? NAMES[below(NAMES.length)] : persons.get(below(persons.size()));
    }

    String expression(int depth) {
        StringBuilder s = new StringBuilder(test(depth));
        while (below(3) == 0) {
            s.append(below(2) == 0 ? " and " : " or ").append(test(depth));
        }
        return s.toString();
    }

    private String test(int depth) {
        int kind = below(3);
        return kind == 0 ? sum(depth) : sum(depth) + (kind == 1 ? " < " : " = ") + sum(depth);
    }

    private String sum(int depth) {
        StringBuilder s = new StringBuilder(product(depth));
        while (below(3) == 0) {
            s.append(below(2) == 0 ? " + " : "-").append(product(depth));
        }
        return s.toString();
    }

    private String product(int depth) {
        return below(4) == 0 ? part(depth) + "*" + part(depth) : part(depth);
    }

    private String part(int depth) {
        int kind = below(depth > 3 && below(60) > 0 ? 6 : 9);
        switch (kind) {
            case 0:
                return "off";
            case 1:
                return "week";
            case 2:
                return "met";
            case 3:
                return "white";
            case 4:
                return Integer.toString(below(4));
            case 5:
                return Integer.toString(below(30) == 0 ? 9999 : below(12));
            case 6:
                return "not " + part(depth + 1);
            default:
                return "(" + expression(depth + 1) + ")";
        }
    }

    /** A canton without a fault that most often has something happen in it. */
    String canton() {
        List<String> names = new ArrayList<>(List.of(NAMES));
        java.util.Collections.shuffle(names, draws);
        int people = below(8) == 0 ? below(7) : 3 + below(4);
        persons = names.subList(0, people);
        int events = below(8) == 0 ? below(6) : 1 + below(5);
        List<String> lines = new ArrayList<>();
        for (int p = 0; p < people; p++) {
            lines.add("person " + names.get(p) + " " + KINDS[below(KINDS.length)] + " lot " + below(5));
        }
        for (int e = 0; e < events; e++) {
            int on = below(3) == 0 ? 1 : below(7);
            lines.add("event " + names.get(people + e) + " on " + on + " needs " + (1 + below(below(3) == 0 ? 6 : 3)));
        }
        int often = 1 + below(4);
        for (int p = 0; p < people; p++) {
            for (int e = 0; e < events; e++) {
                if (below(5) < often) {
                    lines.add("comes " + names.get(p) + " " + names.get(people + e));
                }
            }
        }
        if (below(2) == 0) {
            lines.add(below(lines.size() + 1), snow(1 + below(8)));
        }
        if (below(2) == 0) {
            lines.add(below(lines.size() + 1), "goes " + expression(0));
        }
        String between = below(2) == 0 ? ";" : " ;\n ";
        StringBuilder text = new StringBuilder();
        for (String line : lines) {
            text.append(line).append(between);
        }
        return text.toString();
    }

    private String snow(int days) {
        List<Integer> all = new ArrayList<>();
        for (int d = 0; d < 28; d++) {
            all.add(d);
        }
        java.util.Collections.shuffle(all, draws);
        StringBuilder s = new StringBuilder("snow");
        for (int i = 0; i < days; i++) {
            s.append(' ').append(all.get(i));
        }
        return s.toString();
    }

    String week() {
        StringBuilder s = new StringBuilder();
        int lines = below(12) == 0 ? 38 + below(5) : below(30);
        for (int i = 0; i < lines; i++) {
            int kind = below(8);
            s.append(kind == 0 ? "ask " + name() : kind == 1 ? "lot " + name() + " " + below(5) : "day").append(';');
        }
        return s.toString();
    }

    /** The text with a token or a sign of it changed, gone, or come in. */
    String spoiled(String text) {
        List<String> words = new ArrayList<>(List.of(text.split(" ", -1)));
        int times = 1 + below(2);
        for (int i = 0; i < times; i++) {
            int place = below(words.size());
            switch (below(4)) {
                case 0:
                    words.set(place, ODD[below(ODD.length)]);
                    break;
                case 1:
                    words.add(place, ODD[below(ODD.length)]);
                    break;
                case 2:
                    words.add(words.get(place));
                    break;
                default:
                    words.set(place, "");
                    break;
            }
        }
        String joined = String.join(" ", words);
        return below(4) == 0 ? joined.substring(0, below(joined.length() + 1)) : joined;
    }
}
