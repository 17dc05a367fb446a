/** Boundaries of D, of SAFE, and of a STATE that is SAFE, a sentence each. */
public final class GuardBoundaryTest {
    /** One section of 100; behind the seconds 1 and 0.5 MEASURED is 21.75 and MARGIN 0.21875 at the speed 1.5. */
    private static final String FULL_OF_100 = "train 0 20 1; ask 0 0; take 0 0 = 1; start 0 = 2;";

    public static void main(String[] args) {
        brakingWay();
        brakingWayFromTheTop();
        brakingWayToALimit();
        safeForTheAuthority();
        safeForASection();
        safeForARestriction();
        atTheLineEnd();
        underTheLimitAtTheFront();
        underTheLimitAtTheRear();
        nearTheLineBegin();
        slowSectionAtTheRear();
        stateOverASectionBegin();
        aboveTheLineEnd();
        Check.finish();
    }

    private static void brakingWay() {
        Sentence.holds("D: 0 if v is not above s", """
                section 50 60; train 0 10 1
                of 0 5 = 0
                """);
        Sentence.holds("D: u - b is below s in the first second", """
                section 50 60; train 0 10 2; start 0
                second 0 1 0
                of 0 5 = 0.5
                second 0 0.875 0
                of 0 3 = 1.875; of 0 5 = 0.9375
                """);
        Sentence.holds("D: u - b is s just", """
                section 50 60; train 0 10 1; start 0
                second 0 1 0
                of 0 5 = 0.5
                second 0 1 0
                of 0 5 = 2
                """);
        Sentence.holds("D: one second more for an eighth above", """
                section 50 60; train 0 10 1; start 0
                second 0 1 0; second 0 0.125 0
                of 0 3 = 1.125; of 0 5 = 0.6875
                """);
    }

    private static void brakingWayFromTheTop() {
        Sentence.holds("D: from 60 with the weakest brake, and the LIMIT 60 is not passed", """
                10 x section 1000 60; train 0 10 0.5; ask 0 9; take 0 0; start 0 = 2
                59 x second 0 1 0
                of 0 3 = 59; of 0 5 = 3481
                second 0 1 0
                of 0 3 = 60; of 0 5 = 3600; count 4 = 0
                second 0 0.125 0
                of 0 3 = 59.5; of 0 5 = 3540.25; count 4 = 1
                second 0 0.5 0
                of 0 3 = 60; count 4 = 1
                """);
    }

    /** At 3 MEASURED is 24.5 and MARGIN 0.5625; D of 3 and 1.5 is 2.5 + 1.75, so it needs 29.84375. */
    private static void brakingWayToALimit() {
        Sentence.holds("D: of 3 and 1.5, SAFE", "section 100 60; restrict 29.875 40 1.5;" + FULL_OF_100 + """
                3 x second 0 1 0
                of 0 3 = 3; count 4 = 0
                """);
        Sentence.holds("D: of 3 and 1.5, not SAFE", "section 100 60; restrict 29.75 40 1.5;" + FULL_OF_100 + """
                2 x second 0 1 0
                count 4 = 0
                second 0 1 0
                of 0 3 = 1; count 4 = 1
                """);
        Sentence.holds("D: of 2 and 1, where u - b is s just (23.9375), SAFE",
                "section 100 60; restrict 24 40 1;" + FULL_OF_100 + "2 x second 0 1 0; of 0 3 = 2; count 4 = 0");
        Sentence.holds("D: of 2 and 1, where u - b is s just (23.9375), not SAFE",
                "section 100 60; restrict 23.875 40 1;" + FULL_OF_100 + "2 x second 0 1 0; of 0 3 = 0; count 4 = 1");
    }

    private static void safeForTheAuthority() {
        String full = "ask 0 0; take 0 0 = 1; start 0 = 2;";
        Sentence.holds("SAFE: at most x: 0.5 + 0.0625 + 1.125 * 0.5 beyond 48.875 is 50 just",
                "2 x section 50 60; train 0 48.875 1;" + full + """
                second 0 1 0 = 2
                of 0 3 = 1; count 4 = 0
                """);
        Sentence.holds("SAFE: at most x: 0.5 + 0.0625 + 1.125 * 0.5 beyond 49 is above 50",
                "2 x section 50 60; train 0 49 1;" + full + """
                second 0 1 0 = 2
                of 0 3 = 0; of 0 0 = 49; count 4 = 1
                """);
        Sentence.holds("SAFE: a 64th above x", "2 x section 50 60; train 0 49.875 1;" + full + """
                second 0 0.125 0 = 2
                of 0 3 = 0; of 0 0 = 49.875; count 4 = 1
                """);
        Sentence.holds("SAFE: a train that stands at its AUTHORITY", "2 x section 50 60; train 0 50 1;" + full + """
                second 0 0 0 = 2; second 0 -2 1 = 2
                count 4 = 0
                second 0 0.125 0 = 2
                of 0 3 = 0; of 0 0 = 50; count 4 = 1
                """);
    }

    /** From 1 to 1.5 before a LIMIT of 1: 2 less 0.25, then 0.21875, then 1.125 * 1.25: 3.375 in all. */
    private static void safeForASection() {
        String full = "ask 0 1; take 0 0 = 1; start 0 = 2; second 0 1 0; second 0 0.5 0;";
        Sentence.holds("SAFE: a section's begin for the LIMIT there, just",
                "section 50 60; section 50 1; train 0 46.625 1;" + full + "of 0 3 = 1.5; count 4 = 0");
        Sentence.holds("SAFE: a section's begin for the LIMIT there, an eighth too far",
                "section 50 60; section 50 1; train 0 46.75 1;" + full + "of 0 3 = 0; count 4 = 1");
        Sentence.holds("SAFE: a section's begin with a LIMIT that is enough",
                "section 50 60; section 50 1.5; train 0 46.75 1;" + full + "of 0 3 = 1.5; count 4 = 0");
        Sentence.holds("SAFE: a section's begin, the second one ahead",
                "section 50 60; section 50 60; section 50 1; train 1 46.75 1; ask 0 2; take 0 0; start 0 = 2;"
                + "second 0 1 0; second 0 0.5 0; of 0 3 = 0; count 4 = 1");
    }

    private static void safeForARestriction() {
        String speeds = "second 0 1 0; second 0 0.5 0;";
        Sentence.holds("SAFE: a RESTRICTION's from for the LIMIT there, just",
                "section 100 60; restrict 23.375 30 1;" + FULL_OF_100 + speeds + "of 0 3 = 1.5; count 4 = 0");
        Sentence.holds("SAFE: a RESTRICTION's from for the LIMIT there, an eighth too far",
                "section 100 60; restrict 23.25 30 1;" + FULL_OF_100 + speeds + "of 0 3 = 0; count 4 = 1");
        Sentence.holds("SAFE: a RESTRICTION with a LIMIT that is enough",
                "section 100 60; restrict 23.25 30 1.5;" + FULL_OF_100 + speeds + "of 0 3 = 1.5; count 4 = 0");
        Sentence.holds("SAFE: the fifth RESTRICTION counts too",
                "section 100 60; 4 x restrict 90 95 50; restrict 23.25 30 1;" + FULL_OF_100 + speeds + "of 0 3 = 0");
        Sentence.holds("SAFE: one that is released does not count",
                "section 100 60; restrict 23.25 30 1;" + FULL_OF_100
                + "second 0 1 0; release 0 = 0; second 0 0.5 0; of 0 3 = 1.5");
        Sentence.holds("SAFE: a from at MEASURED and MARGIN (20.5625) or below is none ahead",
                "section 100 60; restrict 20.5 30 1;" + FULL_OF_100 + """
                second 0 1 0
                of 0 3 = 1; count 4 = 0
                second 0 0.125 0
                of 0 3 = 0; count 4 = 1
                """);
    }

    /** The train comes to stand before its AUTHORITY at the line's end, with or without a RESTRICTION there. */
    private static void atTheLineEnd() {
        String drive = FULL_OF_100 + "8 x second 0 1 0; of 0 3 = 8; count 4 = 0; 22 x second 0 1 0; mode 0 = 2;";
        String stands = "count 5 = 0; of 0 3 = 0; of 0 0 = 91;";
        Sentence.holds("STATE: a from at the line's end, not above it",
                "section 100 60; restrict 100 200 1;" + drive + stands);
        Sentence.holds("STATE: a from above the line's end is none to be SAFE for",
                "section 100 60; restrict 100.125 200 1;" + drive + stands);
        Sentence.holds("STATE: a from far above the line's end",
                "section 100 60; restrict 9999.875 10000 1;" + drive + stands);
    }

    private static void underTheLimitAtTheFront() {
        Sentence.holds("STATE: v is at most the LIMIT at m + k", "section 100 1;" + FULL_OF_100 + """
                second 0 1 0
                of 0 3 = 1; count 4 = 0
                second 0 0.125 0
                of 0 3 = 0; count 4 = 1
                """);
        String drive = FULL_OF_100 + "2 x second 0 1 0; of 0 3 = 2; second 0 0.5 0;";
        Sentence.holds("STATE: m + k (24.78125) is below to",
                "section 100 60; restrict 20 24.875 2;" + drive + "of 0 3 = 1; count 4 = 1");
        Sentence.holds("STATE: m + k (24.78125) is above to, m (24.25) is not",
                "section 100 60; restrict 20 24.75 2;" + drive + "of 0 3 = 2.5; count 4 = 0");
    }

    /** At the speed 2.5 MEASURED less the length is 4.25. */
    private static void underTheLimitAtTheRear() {
        String drive = FULL_OF_100 + "2 x second 0 1 1; of 0 3 = 2; second 0 0.5 1;";
        Sentence.holds("STATE: m less the train's length is below to, though REAL less it is not",
                "section 100 60; restrict 0 4.375 2;" + drive + "of 0 3 = 1; count 4 = 1");
        Sentence.holds("STATE: m less the train's length is at to",
                "section 100 60; restrict 0 4.25 2;" + drive + "of 0 3 = 2.5; of 0 1 = 24.25; count 4 = 0");
        Sentence.holds("STATE: m less the train's length is at from",
                "section 100 60; restrict 4.25 4.375 2;" + drive + "of 0 3 = 1; count 4 = 1");
        Sentence.holds("STATE: m less the train's length is below from, m + k is at or above to",
                "section 100 60; restrict 4.375 20 1;" + drive + "of 0 3 = 2.5; count 4 = 0");
    }

    /** The ways 0.125 and 0.75 bring the rear to 0.875 at the speed 1.25; it can't come below 0. */
    private static void nearTheLineBegin() {
        String drive = FULL_OF_100 + "second 0 0.25 0; second 0 1 0;";
        Sentence.holds("STATE: m less the train's length is just above 0, and past a LIMIT at 0",
                "section 100 60; restrict 0 0.875 1;" + drive + "of 0 3 = 1.25; of 0 1 = 20.875; count 4 = 0");
        Sentence.holds("STATE: m less the train's length is just above 0, and under a LIMIT at 0",
                "section 100 60; restrict 0 1 1;" + drive + "of 0 3 = 0; count 4 = 1");
        Sentence.holds("STATE: m less the train's length is just above 0, and under a LIMIT that is not at 0",
                "section 100 60; restrict 0.875 1 1;" + drive + "of 0 3 = 0; count 4 = 1");
    }

    /** The rear is at 47.75 behind 26 seconds; the way of the next one is 2.25 with 0.5, 2.1875 with 0.375. */
    private static void slowSectionAtTheRear() {
        String drive = """
                section 50 2; section 200 60
                train 0 50 1; ask 0 1; take 0 0; start 0 = 2
                second 0 0.75 0; second 0 0.25 0; second 0 0 0; second 0 1 0
                22 x second 0 0 0
                of 0 1 = 97.75; of 0 3 = 2; count 4 = 0
                """;
        Sentence.holds("STATE: the rear at the begin of a fast section", drive + """
                second 0 0.5 0
                of 0 3 = 2.5; of 0 1 = 100; count 4 = 0
                """);
        Sentence.holds("STATE: the rear a sixteenth before the begin of a fast section", drive + """
                second 0 0.375 0
                of 0 3 = 1; count 4 = 1
                """);
    }

    /**
     * At 8 MEASURED is 42 and MARGIN 4; at 9 they would be 50.5 and 5.0625, and it would need 101.125. With the
     * MARGIN that the section's begin at 50 sets to 0 it would need less than 100.
     */
    private static void stateOverASectionBegin() {
        Sentence.holds("STATE: m and k as they would come, grown by the way", """
                2 x section 50 60; train 0 10 1; ask 0 1; take 0 0; start 0 = 2
                8 x second 0 1 0
                of 0 3 = 8; of 0 1 = 42; of 0 2 = 4; count 4 = 0
                second 0 1 0
                of 0 3 = 7; count 4 = 1
                """);
    }

    /** A wet train whose wheels slip passes its AUTHORITY by what it measures, long before it comes there. */
    private static void aboveTheLineEnd() {
        Sentence.holds("STATE: m + k, then m less the length, above the line's end", """
                section 1000 60; train 0 10 0.5; ask 0 0; take 0 0; start 0 = 2
                wet 0 true
                24 x second 0 1 -1
                of 0 3 = 24; of 0 1 = 298; of 0 2 = 36; count 4 = 0
                46 x second 0 1 -1
                of 0 3 = 12.5; of 0 0 = 996.5625; of 0 1 = 1137.5; of 0 2 = 140.9375; count 4 = 46
                second 0 1 -1 = 2
                of 0 3 = 0; of 0 0 = 1000; of 0 1 = 1000; of 0 2 = 0; count 4 = 47; count 5 = 0
                """);
    }
}
