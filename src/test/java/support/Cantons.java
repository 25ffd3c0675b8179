/** Cantons small enough to be reckoned by hand, which several tests use. */
final class Cantons {
    private Cantons() {
    }

    /**
     * One of each kind. Mass (0): ann and dan on each day 0, bob on each day 6 and 0. Fair (1): bob on each day 0 and
     * 1, cid on each day 2. It snows on day 7 and each four weeks: mass has all three then, and bob is not at the fair.
     */
    static final String KINDS = "person ann plain lot 2; person bob widow lot 3; person cid thief lot 1;"
            + "person dan gaoler lot 4; event mass on 0 needs 3; event fair on 1 needs 2; comes ann mass;"
            + "comes bob mass; comes cid mass; comes dan mass; comes bob fair; comes cid fair; snow 7;";

    /** On day 1 a meets b, on day 2 b meets c, on day 3 c meets d; e meets nobody. */
    static final String CHAIN = "person a plain lot 2;person b plain lot 2;person c plain lot 2;person d plain lot 2;"
            + "person e plain lot 2;event x on 1 needs 1;event y on 2 needs 1;event z on 3 needs 6;comes a x;comes b x;"
            + "comes b y;comes c y;comes c z;comes d z;";

    /** Two who are right only where it snows, or by new lots. */
    static final String TWO = "person a plain lot 2;person b plain lot 3;event e on 0 needs 2;comes a e;comes b e;";

    /** As many as there can be: a to f, all right, who all come to p to t, on day 1 to 5 of each week. */
    static final String FULL = of(6, 5);

    /** So many right ones (a, b, ..) who all come to so many events (p, q, ..) on the days 1, 2, .. of the week. */
    static String of(int persons, int events) {
        StringBuilder text = new StringBuilder();
        for (int p = 0; p < persons; p++) {
            text.append("person ").append((char) ('a' + p)).append(" plain lot 2;");
        }
        for (int e = 0; e < events; e++) {
            text.append("event ").append((char) ('p' + e)).append(" on ").append(e + 1).append(" needs 1;");
        }
        for (int p = 0; p < persons; p++) {
            for (int e = 0; e < events; e++) {
                text.append("comes ").append((char) ('a' + p)).append(' ').append((char) ('p' + e)).append(';');
            }
        }
        return text.toString();
    }

    /** One who is right and who comes to e, an event on such a day of the week, by such a law. */
    static String one(int weekday, String law) {
        return "person p plain lot 2;event e on " + weekday + " needs 1;comes p e;goes " + law + ";";
    }
}
