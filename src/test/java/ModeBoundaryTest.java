/** Boundaries of promises 6 start, 12 acknowledge, 13 end and 18 count, a sentence each. */
public final class ModeBoundaryTest {
    private static final String ONE = "2 x section 50 60; train 0 50 1;";
    private static final String FULL = "ask 0 0; take 0 0 = 1; start 0 = 2;";
    private static final String TRIP = "stop 0; take 0 0 = 0; mode 0 = 3;";

    public static void main(String[] args) {
        starts();
        startInOtherModes();
        acknowledges();
        endModes();
        endHoldings();
        noSuchTrain();
        counts();
        countForged();
        countBrakings();
        countOverruns();
        Check.finish();
    }

    /** MEASURED grows by 3, MARGIN is 0.375 then. */
    private static void starts() {
        String stands = "start 0 = 1; 2 x second 0 1 0; second 0 -2 0; of 0 3 = 0; end 0;";
        Sentence.holds("6: to FULL if it has an AUTHORITY and the STATE is SAFE", ONE + """
                ask 0 0; take 0 0 = 1
                start 0 = 2
                mode 0 = 2
                """);
        Sentence.holds("6: to FULL with MEASURED and MARGIN at the AUTHORITY just",
                "2 x section 50 60; train 0 46.625 1;" + stands + "ask 0 0; take 0 0 = 1; start 0 = 2");
        Sentence.holds("6: to STAFF with MEASURED and MARGIN an eighth above it, as it is not taken then",
                "2 x section 50 60; train 0 46.75 1;" + stands
                + "ask 0 0; take 0 0 ! UnsupportedOperationException; start 0 = 1");
        Sentence.holds("6: to STAFF without an AUTHORITY", ONE + "start 0 = 1; mode 0 = 1");
        Sentence.holds("6: to STAFF with one that is not taken", ONE + "ask 0 0; start 0 = 1");
        Sentence.holds("6: to STAFF with one that a STOP has taken away",
                ONE + "ask 0 0; take 0 0; stop 0; take 0 0; start 0 = 1");
        Sentence.holds("6: to STAFF with one that end has taken away", ONE + "ask 0 0; take 0 0; end 0; start 0 = 1");
    }

    private static void startInOtherModes() {
        Sentence.holds("6: a train in STANDBY, in no other mode", ONE + """
                start 0 = 1
                start 0 ! IllegalStateException
                ask 0 0; take 0 0; mode 0 = 2
                start 0 ! IllegalStateException
                stop 0; take 0 0; mode 0 = 3
                start 0 ! IllegalStateException
                acknowledge 0 = 4
                start 0 ! IllegalStateException
                end 0
                start 0 = 1
                """);
    }

    private static void acknowledges() {
        Sentence.holds("12: a train in TRIP that stands goes to POST, in POST to STAFF", ONE + "start 0;" + TRIP + """
                acknowledge 0 = 4
                mode 0 = 4
                acknowledge 0 = 1
                mode 0 = 1
                """);
        Sentence.holds("12: one in TRIP that goes at 0.125 does not", """
                section 100 60; train 0 50 1; start 0
                second 0 0.125 0
                """ + TRIP + """
                acknowledge 0 ! IllegalStateException
                second 0 0 0 = 3
                of 0 3 = 0
                acknowledge 0 = 4
                """);
        Sentence.holds("12: else IllegalStateException", ONE + """
                acknowledge 0 ! IllegalStateException
                start 0 = 1
                acknowledge 0 ! IllegalStateException
                ask 0 0; take 0 0; mode 0 = 2
                acknowledge 0 ! IllegalStateException
                """ + TRIP + """
                acknowledge 0 = 4; acknowledge 0 = 1
                acknowledge 0 ! IllegalStateException
                """);
        Sentence.holds("12: to STAFF with an AUTHORITY too", ONE + "start 0;" + TRIP + """
                acknowledge 0 = 4
                ask 0 0; take 0 0 = 1
                acknowledge 0 = 1
                of 0 4 = 50
                """);
    }

    private static void endModes() {
        Sentence.holds("13: a train that stands, in every mode but TRIP", ONE + """
                end 0 = 0; mode 0 = 0
                start 0 = 1; end 0 = 0; mode 0 = 0
                """ + FULL + """
                end 0 = 0; mode 0 = 0; of 0 4 = -1
                start 0 = 1;
                """ + TRIP + """
                end 0 ! IllegalStateException
                acknowledge 0 = 4
                end 0 = 0; mode 0 = 0
                """);
        Sentence.holds("13: one that goes at 0.125 does not stand", """
                2 x section 100 60; train 0 50 1; start 0
                second 0 0.125 0
                end 0 ! IllegalStateException
                second 0 -0.125 0
                end 0 = 0
                """ + FULL + """
                second 0 0.125 0 = 2
                end 0 ! IllegalStateException
                """ + TRIP + """
                end 0 ! IllegalStateException
                second 0 0 0
                end 0 ! IllegalStateException
                """);
        Sentence.holds("13: to STANDBY without an AUTHORITY", ONE + """
                ask 0 0; take 0 0; of 0 4 = 50
                end 0
                of 0 4 = -1
                start 0; stop 0; take 0 0; acknowledge 0 = 4
                ask 0 0; take 0 0; of 0 4 = 50
                end 0
                of 0 4 = -1; mode 0 = 0
                """);
    }

    private static void endHoldings() {
        Sentence.holds("13: HOLDS just those of the sections that it is IN, not one whose begin its front is at", """
                3 x section 50 60; train 0 50 1
                ask 0 2
                holds 1 0 = 0; holds 2 0 = 0
                end 0
                holds 0 0 = 0; holds 1 0 = -1; holds 2 0 = -1
                """);
        Sentence.holds("13: HOLDS one whose begin its front is past, which it did not HOLD", """
                3 x section 50 60; train 0 50 1; start 0
                second 0 0.125 0; second 0 -0.125 0
                holds 0 0 = 0; holds 1 0 = -1
                end 0
                holds 0 0 = 0; holds 1 0 = 0; holds 2 0 = -1
                """);
        Sentence.holds("13: not one that another HOLDS", """
                3 x section 50 60; train 1 50 1; ask 0 2; train 0 50 1; start 1
                second 1 0.125 0; second 1 -0.125 0
                holds 1 1 = 0
                end 1
                holds 0 0 = 1; holds 1 0 = 0; holds 2 0 = 0
                """);
        Sentence.holds("13: HOLDS one that another is IN but does not HOLD", """
                3 x section 50 60; train 1 50 1; train 0 50 1
                start 0; 2 x second 0 0.125 0; start 1
                5 x second 1 1 0; 12 x second 1 0 0; 3 x second 1 -2 0
                of 1 0 = 129; of 1 3 = 0
                holds 2 0 = -1; holds 2 1 = 0
                end 1
                holds 0 0 = -1; holds 1 0 = 0; holds 2 0 = 1; holds 2 1 = 0
                """);
        Sentence.holds("13: a message that waits is not spoken of: it stays", ONE + """
                ask 0 0 = 1
                end 0
                take 0 0 = 1
                """);
    }

    private static void noSuchTrain() {
        String[] calls = {"start", "acknowledge", "end"};
        for (String call : calls) {
            String refused = " ! IllegalArgumentException;";
            Sentence.holds(call + ": no such train", call + " 0" + refused + ONE + call + " -1" + refused
                    + call + " 1" + refused + call + " 2" + refused + call + " 3" + refused
                    + call + " LEAST" + refused + call + " GREATEST" + refused);
        }
    }

    private static void counts() {
        Sentence.holds("18: 0 .. 5, -1 for others", ONE + """
                restrict 0 10 5
                count -1 = -1
                count 0 = 2; count 1 = 1; count 2 = 1; count 3 = 0; count 4 = 0; count 5 = 0
                count 6 = -1
                count LEAST = -1; count GREATEST = -1
                """);
        Sentence.holds("18: RESTRICTIONS less those that are gone", """
                count 1 = 0
                5 x restrict 0 10 5
                count 1 = 5
                restrict 0 10 5 ! IllegalStateException
                count 1 = 5
                release 0
                count 1 = 4
                4 x release 0
                count 1 = 0
                """);
    }

    private static void countForged() {
        Sentence.holds("18: FORGED of all trains, by wrong MARKS alone", """
                2 x section 50 60; train 0 40 1; train 1 50 1
                stop 0; take 0 1 ! UnsupportedOperationException
                count 3 = 1
                ask 1 1; take 1 1 ! UnsupportedOperationException
                count 3 = 2
                start 0; 3 x second 0 1 0
                ask 0 0; take 0 0 ! UnsupportedOperationException
                count 3 = 2
                take 0 1 ! NoSuchElementException
                stop 0; take 0 1024 ! IllegalArgumentException
                count 3 = 2
                take 0 0 = 0
                count 3 = 2
                """);
    }

    private static void countBrakings() {
        Sentence.holds("18: how often a guard braked, of all trains, of one that stands too", """
                2 x section 50 60; train 0 50 1; train 1 50 1
                ask 0 0; take 0 0; start 0 = 2; ask 1 1; take 1 0; start 1 = 2
                second 0 0 0; second 1 0 0
                count 4 = 0
                2 x second 0 0.125 0
                count 4 = 2
                second 1 0.125 0
                count 4 = 3
                """);
        Sentence.holds("18: brakes in TRIP and in STAFF are no guard's", """
                section 100 60; train 0 20 1; start 0
                3 x second 0 1 0; second 0 -1 0
                stop 0; take 0 0
                3 x second 0 1 0
                count 4 = 0
                """);
    }

    private static void countOverruns() {
        Sentence.holds("18: seconds that ended in TRIP after beginning in FULL", """
                2 x section 50 60; train 0 48.875 1; wet 0 true; ask 0 0; take 0 0; start 0 = 2
                second 0 1 1 = 2
                count 5 = 0
                second 0 1 1 = 3
                count 5 = 1
                2 x second 0 1 1 = 3
                count 5 = 1
                """);
        Sentence.holds("18: a STOP is no such second, nor is one in TRIP behind it", ONE + FULL + TRIP + """
                second 0 1 0 = 3
                count 5 = 0
                """);
        Sentence.holds("18: such seconds of two trains", """
                4 x section 50 60; train 0 48.875 1; train 2 48.875 1; wet 0 true; wet 1 true
                ask 0 0; take 0 0; start 0; ask 1 2; take 1 0; start 1
                2 x second 0 1 1
                count 5 = 1
                2 x second 1 1 1
                count 5 = 2
                """);
    }
}
