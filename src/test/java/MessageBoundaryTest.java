/** Boundaries of MESSAGES and of promises 7 to 9, a sentence each. */
public final class MessageBoundaryTest {
    /** Train 0, 50 long, of two sections of 50, its front at the end of section 0. */
    private static final String AT_THE_END = "2 x section 50 60; train 0 50 1;";
    private static final String TRIP = "start 0; stop 0; take 0 0; mode 0 = 3;";

    public static void main(String[] args) {
        messages();
        marks();
        everyAlter();
        askNumbers();
        askWhereOthersHold();
        askWhereOthersAre();
        askHolds();
        stops();
        takeNumbers();
        takeInTrip();
        takeForged();
        takeStop();
        takeNotSafe();
        takeSafe();
        takeInStaff();
        Check.finish();
    }

    private static void messages() {
        Sentence.holds("MESSAGES: at most one for each train", AT_THE_END + """
                train 1 50 1 = 1
                take 0 0 ! NoSuchElementException
                ask 0 0; stop 0
                take 1 0 ! NoSuchElementException
                take 0 0 = 0
                take 0 0 ! NoSuchElementException
                stop 0; ask 0 0; stop 1
                take 0 0 = 1
                take 0 0 ! NoSuchElementException
                take 1 0 = 0
                take 1 0 ! NoSuchElementException
                """);
        Sentence.holds("MESSAGES: each train has numbers of its own", """
                3 x section 50 60; train 0 10 1; train 1 10 1; train 2 10 1
                stop 0 = 1; stop 0 = 2; ask 0 0 = 3
                stop 1 = 1; ask 1 1 = 2
                ask 2 2 = 1
                stop 0 = 4; stop 1 = 3; stop 2 = 2
                """);
        Sentence.holds("MESSAGES: with a number, 1, 2, .. for each train", AT_THE_END + """
                train 1 50 1 = 1
                ask 0 0 = 1
                stop 0 = 2
                ask 0 1 ! IllegalStateException
                ask 0 2 ! IllegalArgumentException
                stop 0 = 3
                take 0 5 ! UnsupportedOperationException
                ask 0 0 = 4
                take 0 0 = 1
                stop 1 = 1
                ask 1 1 = 2
                stop 0 = 5
                end 0
                stop 0 = 6
                """);
    }

    private static void marks() {
        Sentence.holds("MARK: 1023 for the 33rd STOP, 30 for the 34th", AT_THE_END + """
                33 x stop 0
                take 0 0 = 0
                stop 0 = 34
                take 0 0 = 0
                """);
        Sentence.holds("MARK: the 33rd and the 34th STOP forged", AT_THE_END + """
                33 x stop 0
                take 0 1023 ! UnsupportedOperationException
                stop 0 = 34
                take 0 30 ! UnsupportedOperationException
                count 3 = 2
                """);
        Sentence.holds("MARK: 1023 for the 8th message, to 96.875", """
                section 96.875 60; train 0 50 1
                7 x stop 0; ask 0 0 = 8
                take 0 1023 ! UnsupportedOperationException
                7 x stop 0; ask 0 0 = 16
                take 0 0 = 1
                """);
        Sentence.holds("MARK: 0 for the 8th message, to 97", """
                section 97 60; train 0 50 1
                7 x stop 0; ask 0 0 = 8
                take 0 0 = 1
                of 0 4 = 97
                """);
        Sentence.holds("MARK: 0 for the 8th message, to 97, forged", """
                section 97 60; train 0 50 1
                7 x stop 0; ask 0 0 = 8
                take 0 1023 ! UnsupportedOperationException
                of 0 4 = -1
                """);
        Sentence.holds("MARK: of the farthest place, 10000", """
                10 x section 1000 60; train 9 50 1
                ask 0 9; take 0 1 ! UnsupportedOperationException
                ask 0 9; take 0 512 ! UnsupportedOperationException
                ask 0 9; take 0 0 = 1
                of 0 4 = 10000
                """);
    }

    /** Each alter but 0 makes the MARK wrong; some 128 of them in a run, to stay below 512 calls. */
    private static void everyAlter() {
        for (int first = 0; first < 1024; first += 128) {
            StringBuilder run = new StringBuilder(AT_THE_END);
            int forged = 0;
            for (int alter = Math.max(1, first); alter < first + 128; alter++) {
                run.append(alter % 2 == 0 ? "ask 0 0;" : "stop 0;");
                run.append("take 0 ").append(alter).append(" ! UnsupportedOperationException;");
                forged++;
                run.append("count 3 = ").append(forged).append(";");
            }
            Sentence.holds("9: each alter but 0 is forged, from " + first, run.toString());
        }
    }

    private static void askNumbers() {
        Sentence.holds("7: the section may not lie before the train's HEAD", """
                4 x section 50 60; train 1 50 1
                ask 0 0 ! IllegalArgumentException
                ask 0 1 = 1
                start 0; second 0 0.125 0
                ask 0 1 ! IllegalArgumentException
                ask 0 2 = 2
                """);
        Sentence.holds("7: no such section, no such train", AT_THE_END + """
                ask 0 -1 ! IllegalArgumentException
                ask 0 2 ! IllegalArgumentException
                ask 0 LEAST ! IllegalArgumentException
                ask 0 GREATEST ! IllegalArgumentException
                ask -1 0 ! IllegalArgumentException
                ask 1 0 ! IllegalArgumentException
                ask 0 1 = 1
                """);
    }

    /** Train 1 overtakes train 0 and stands in sections 2 and 3, of which train 0 holds 1 to 3. */
    private static void askWhereOthersHold() {
        Sentence.holds("7: must be HELD by no other train, though none is IN it", """
                4 x section 50 60
                train 1 10 1; ask 0 3
                train 0 50 1; start 1
                5 x second 1 1 0
                20 x second 1 0 0
                3 x second 1 -2 0
                holds 3 0 = 0; holds 3 1 = 1; holds 1 1 = 0; of 1 3 = 0
                ask 1 3 ! IllegalStateException
                end 0
                holds 3 0 = -1
                ask 1 3 = 1
                holds 3 0 = 1; holds 2 0 = -1
                """);
        Sentence.holds("7: each from HEAD on to it, HELD by another and with it IN", """
                4 x section 50 60
                train 0 10 1; train 2 10 1
                ask 0 1 = 1
                ask 0 2 ! IllegalStateException
                ask 0 3 ! IllegalStateException
                ask 1 3 = 1
                ask 0 1 = 2
                """);
        Sentence.holds("7: those before another's are not HELD by an ask that is refused", """
                4 x section 50 60
                train 0 10 1; train 3 10 1
                ask 0 3 ! IllegalStateException
                holds 0 0 = 0; holds 1 0 = -1; holds 2 0 = -1; holds 3 0 = 1
                ask 0 2 = 1
                holds 2 0 = 0
                """);
    }

    private static void askWhereOthersAre() {
        Sentence.holds("7: and have no other one IN it, though none HOLDS it", """
                5 x section 50 60
                train 0 10 1; train 1 10 1; start 1
                5 x second 1 1 0
                8 x second 1 0 0
                of 1 0 = 112.5
                holds 1 1 = -1; holds 2 0 = -1; holds 2 1 = 1
                ask 0 1 = 1
                ask 0 2 ! IllegalStateException
                ask 0 3 ! IllegalStateException
                ask 0 4 ! IllegalStateException
                ask 1 4 = 1
                """);
        Sentence.holds("7: another one's front at HEAD's begin is not IN it, past it it is", """
                2 x section 50 60
                train 1 50 1; train 0 50 1; start 1
                ask 0 1 = 1
                second 1 0.125 0
                ask 0 1 ! IllegalStateException
                ask 1 1 ! IllegalStateException
                """);
        Sentence.holds("7: another one IN a section before HEAD does not matter", """
                4 x section 50 60
                train 1 50 1; train 0 50 1
                start 0; start 1
                second 0 1 0; second 1 1 0
                holds 1 1 = 0
                ask 1 1 ! IllegalStateException
                ask 0 2 = 1
                """);
    }

    private static void askHolds() {
        Sentence.holds("7: they are HELD by the train then, from HEAD to the section", """
                5 x section 50 60
                train 0 50 1; start 0
                5 x second 0 1 0
                9 x second 0 0 0
                of 0 0 = 107.5
                holds 0 0 = -1; holds 1 0 = -1; holds 2 0 = -1
                ask 0 3 = 1
                holds 0 0 = -1; holds 1 0 = -1; holds 2 0 = 0; holds 3 0 = 0; holds 4 0 = -1
                """);
        Sentence.holds("7: those that were HELD before stay so", """
                3 x section 50 60; train 0 50 1
                ask 0 2 = 1
                ask 0 0 = 2
                holds 0 0 = 0; holds 1 0 = 0; holds 2 0 = 0
                take 0 0 = 1
                of 0 4 = 50
                """);
    }

    private static void stops() {
        Sentence.holds("8: a STOP, in place of a message before: its number", AT_THE_END + """
                stop 0 = 1
                ask 0 0 = 2
                stop 0 = 3
                stop 0 = 4
                take 0 0 = 0
                of 0 4 = -1
                stop -1 ! IllegalArgumentException
                stop 1 ! IllegalArgumentException
                stop LEAST ! IllegalArgumentException
                stop GREATEST ! IllegalArgumentException
                """);
        Sentence.holds("8: in every mode, and none is changed before take", AT_THE_END + """
                stop 0 = 1; mode 0 = 0
                start 0; stop 0 = 2; mode 0 = 1
                ask 0 0; take 0 0; mode 0 = 2
                stop 0 = 4; mode 0 = 2; of 0 4 = 50
                take 0 0; mode 0 = 3
                stop 0 = 5; mode 0 = 3
                acknowledge 0 = 4
                stop 0 = 6; mode 0 = 4
                """);
    }

    private static void takeNumbers() {
        Sentence.holds("9: alter, 0 .. 1023", AT_THE_END + """
                ask 0 0
                take 0 -1 ! IllegalArgumentException
                take 0 1024 ! IllegalArgumentException
                take 0 LEAST ! IllegalArgumentException
                take 0 GREATEST ! IllegalArgumentException
                take 0 0 = 1
                ask 0 0
                take 0 1023 ! UnsupportedOperationException
                """);
        Sentence.holds("9: no message, in every mode", AT_THE_END + """
                take 0 0 ! NoSuchElementException
                take 0 1023 ! NoSuchElementException
                start 0
                take 0 0 ! NoSuchElementException
                ask 0 0; take 0 0; mode 0 = 2
                take 0 0 ! NoSuchElementException
                stop 0; take 0 0; mode 0 = 3
                take 0 0 ! NoSuchElementException
                take 0 1 ! NoSuchElementException
                acknowledge 0 = 4
                take 0 0 ! NoSuchElementException
                """);
        Sentence.holds("9: no such train", AT_THE_END + """
                ask 0 0
                take -1 0 ! IllegalArgumentException
                take 1 0 ! IllegalArgumentException
                take 2 0 ! IllegalArgumentException
                take 3 0 ! IllegalArgumentException
                take 0 0 = 1
                """);
    }

    private static void takeInTrip() {
        Sentence.holds("9: an AUTHORITY and the train in TRIP: IllegalStateException, it stays", AT_THE_END + TRIP + """
                ask 0 0 = 2
                2 x take 0 0 ! IllegalStateException
                acknowledge 0 = 4
                take 0 0 = 1
                of 0 4 = 50
                """);
        Sentence.holds("9: a forged AUTHORITY in TRIP stays too, and is not FORGED yet", AT_THE_END + TRIP + """
                ask 0 0 = 2
                take 0 1 ! IllegalStateException
                count 3 = 0
                acknowledge 0 = 4
                take 0 1 ! UnsupportedOperationException
                count 3 = 1
                take 0 0 ! NoSuchElementException
                """);
        Sentence.holds("9: an AUTHORITY in TRIP on the way, one that would not be SAFE", """
                2 x section 50 60; train 0 45 0.5; start 0
                2 x second 0 1 0
                stop 0; take 0 0; mode 0 = 3
                ask 0 0 = 2
                take 0 0 ! IllegalStateException
                """);
    }

    private static void takeForged() {
        Sentence.holds("9: the MARK of an AUTHORITY is wrong: it is gone, FORGED grows by 1", AT_THE_END + """
                ask 0 0; take 0 0 = 1; start 0 = 2
                ask 0 1 = 2
                take 0 1 ! UnsupportedOperationException
                count 3 = 1
                mode 0 = 2; of 0 4 = 50; holds 1 0 = 0
                take 0 0 ! NoSuchElementException
                count 3 = 1
                """);
        Sentence.holds("9: the MARK of a STOP is wrong: it is gone, FORGED grows by 1", AT_THE_END + """
                ask 0 0; take 0 0 = 1; start 0 = 2
                stop 0 = 2
                take 0 1023 ! UnsupportedOperationException
                count 3 = 1
                mode 0 = 2; of 0 4 = 50
                take 0 0 ! NoSuchElementException
                """);
        Sentence.holds("9: a forged STOP in TRIP", AT_THE_END + TRIP + """
                stop 0 = 2
                take 0 1 ! UnsupportedOperationException
                count 3 = 1
                mode 0 = 3
                take 0 0 ! NoSuchElementException
                """);
        Sentence.holds("9: a forged AUTHORITY that would not be SAFE is FORGED", """
                section 50 60; train 0 48 1; start 0
                second 0 1 0; second 0 0 0
                ask 0 0
                take 0 1 ! UnsupportedOperationException
                count 3 = 1
                """);
    }

    private static void takeStop() {
        Sentence.holds("9: a STOP: the train, in FULL, is in TRIP", AT_THE_END + """
                ask 0 0; take 0 0; start 0 = 2
                stop 0; take 0 0 = 0
                mode 0 = 3; of 0 4 = -1; count 5 = 0; holds 0 0 = 0
                take 0 0 ! NoSuchElementException
                """);
        Sentence.holds("9: a STOP: the train, in STAFF, is in TRIP; the AUTHORITY is gone", """
                2 x section 50 60; train 0 10 1; start 0
                second 0 1 0
                ask 0 1; take 0 0 = 1
                mode 0 = 1; of 0 4 = 100
                stop 0; take 0 0 = 0
                mode 0 = 3; of 0 4 = -1; of 0 3 = 1
                """);
        Sentence.holds("9: a STOP in STANDBY: the AUTHORITY alone is gone", AT_THE_END + """
                ask 0 0; take 0 0; of 0 4 = 50
                stop 0; take 0 0 = 0
                mode 0 = 0; of 0 4 = -1
                """);
        Sentence.holds("9: a STOP in POST: the AUTHORITY alone is gone", AT_THE_END + TRIP + """
                acknowledge 0 = 4
                ask 0 0; take 0 0; of 0 4 = 50
                stop 0; take 0 0 = 0
                mode 0 = 4; of 0 4 = -1
                """);
        Sentence.holds("9: a STOP in TRIP: it is gone, the train stays there", AT_THE_END + TRIP + """
                stop 0; take 0 0 = 0
                mode 0 = 3
                take 0 0 ! NoSuchElementException
                """);
    }

    /** With the ways 0.5, 1.5 and 1 MEASURED grows by 3 and MARGIN is 0.375. */
    private static void takeNotSafe() {
        String stands = "start 0; 2 x second 0 1 -1; second 0 -2 -1; of 0 3 = 0; of 0 2 = 0.375;";
        Sentence.holds("9: MEASURED and MARGIN are at the AUTHORITY just: it is SAFE",
                "2 x section 50 60; train 0 46.625 1;" + stands + """
                of 0 1 = 49.625
                ask 0 0; take 0 0 = 1
                of 0 4 = 50; mode 0 = 2
                """);
        Sentence.holds("9: MEASURED and MARGIN are an eighth above the AUTHORITY, REAL is not",
                "2 x section 50 60; train 0 46.75 1;" + stands + """
                of 0 1 = 49.75; of 0 0 = 49.375
                ask 0 0; take 0 0 ! UnsupportedOperationException
                of 0 4 = -1; mode 0 = 1; count 3 = 0
                take 0 0 ! NoSuchElementException
                """);
        String speed4 = "start 0; 4 x second 0 1 0; of 0 3 = 4;";
        Sentence.holds("9: at speed 4 it can stop at the AUTHORITY just (8 + 1 + 1.125 * 8)",
                "2 x section 50 60; train 0 32 1;" + speed4 + """
                ask 0 0; take 0 0 = 1
                of 0 4 = 50; mode 0 = 1
                """);
        Sentence.holds("9: at speed 4 it can stop an eighth behind the AUTHORITY",
                "2 x section 50 60; train 0 32.125 1;" + speed4 + """
                ask 0 0; take 0 0 ! UnsupportedOperationException
                of 0 4 = -1; mode 0 = 1; count 3 = 0
                take 0 0 ! NoSuchElementException
                """);
        Sentence.holds("9: D is that of BRAKE, though the train be WET",
                "2 x section 50 60; train 0 32 1; wet 0 true;" + speed4 + "ask 0 0; take 0 0 = 1");
    }

    private static void takeSafe() {
        Sentence.holds("9: not SAFE: the AUTHORITY before stays, and FULL", """
                2 x section 50 60; train 0 40 1; ask 0 1; take 0 0; start 0 = 2
                4 x second 0 1 0
                of 0 3 = 4
                ask 0 0; take 0 0 ! UnsupportedOperationException
                of 0 4 = 100; mode 0 = 2; count 3 = 0
                take 0 0 ! NoSuchElementException
                """);
        Sentence.holds("9: else it is the train's, in place of one before: 1", """
                2 x section 50 60; train 0 10 1; ask 0 1; take 0 0 = 1
                of 0 4 = 100; mode 0 = 0
                ask 0 0; take 0 0 = 1
                of 0 4 = 50; mode 0 = 0
                start 0 = 2
                ask 0 1; take 0 0 = 1
                of 0 4 = 100; mode 0 = 2
                """);
    }

    private static void takeInStaff() {
        Sentence.holds("9: a train in STAFF that stands goes to FULL", AT_THE_END + """
                start 0 = 1
                ask 0 1; take 0 0 = 1
                mode 0 = 2
                """);
        Sentence.holds("9: one in STAFF that goes at 0.125 does not, before it stands", """
                2 x section 50 60; train 0 10 1; start 0 = 1
                second 0 0.125 0
                ask 0 1; take 0 0 = 1
                mode 0 = 1; of 0 4 = 100
                second 0 -0.125 0 = 1
                mode 0 = 1
                ask 0 1; take 0 0 = 1
                mode 0 = 2
                """);
        Sentence.holds("9: one that stands in STANDBY or POST does not", AT_THE_END + """
                ask 0 1; take 0 0 = 1
                mode 0 = 0
                stop 0; take 0 0
                """ + TRIP + """
                acknowledge 0 = 4
                ask 0 1; take 0 0 = 1
                mode 0 = 4
                """);
    }
}
