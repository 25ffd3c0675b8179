/** Cantons small enough to be reckoned by hand, which several tests use. */
final class Cantons {
    private Cantons() {
    }

    /**
     * One of each kind. Mass (0): ann and dan on each day 0, bob on each day 6 and 0. Fair (1): bob on each day 0 and
     * 1, cid on each day 2. It snows on day 7 and each four weeks: mass has all three then, and bob is not at the fair.
     */
    static final String KINDS = "person ann plain lot 2; person bob widow lot 3; person cid thief lot 1;"
            + "person dan gaoler lot 4; event mass on 0 needs 3; event fair on 1 needs 2; comes ann mass;"
            + "comes bob mass; comes cid mass; comes dan mass; comes bob fair; comes cid fair; snow 7;";

    /** On day 1 a meets b, on day 2 b meets c, on day 3 c meets d; e meets nobody. */
    static final String CHAIN = "person a plain lot 2;person b plain lot 2;person c plain lot 2;person d plain lot 2;"
            + "person e plain lot 2;event x on 1 needs 1;event y on 2 needs 1;event z on 3 needs 6;comes a x;comes b x;"
            + "comes b y;comes c y;comes c z;comes d z;";

    /** Two who are right only where it snows, or by new lots. */
    static final String TWO = "person a plain lot 2;person b plain lot 3;event e on 0 needs 2;comes a e;comes b e;";
}
