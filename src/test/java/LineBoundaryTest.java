/** Boundaries of THE LINE and of promises 1 to 4 and 15, a sentence each. */
public final class LineBoundaryTest {
    public static void main(String[] args) {
        newObject();
        sections();
        sectionNumbers();
        restrictions();
        restrictionNumbers();
        restrictWithTrains();
        releases();
        limits();
        limitPlaces();
        Check.finish();
    }

    private static void newObject() {
        Sentence.holds("1: an object in the state that the terms give: empty", """
                count 0 = 0; count 1 = 0; count 2 = 0; count 3 = 0; count 4 = 0; count 5 = 0
                limit 0 ! IllegalArgumentException
                release 0 ! IllegalArgumentException
                holds 0 0 ! IllegalArgumentException
                train 0 10 1 ! IllegalArgumentException
                mode 0 ! IllegalArgumentException
                of 0 0 ! IllegalArgumentException
                take 0 0 ! IllegalArgumentException
                """);
    }

    private static void sections() {
        Sentence.holds("2: SECTIONS 0, 1, .., at most 10", """
                section 50 10 = 0
                section 50 10 = 1
                section 50 10 = 2
                6 x section 50 10
                count 0 = 9
                section 50 10 = 9
                count 0 = 10
                2 x section 50 10 ! IllegalStateException
                count 0 = 10
                holds 9 0 = -1
                holds 10 0 ! IllegalArgumentException
                """);
        Sentence.holds("2: one behind the other from the place 0 on", """
                section 50 5; section 62.5 6; section 1000 7
                limit 0 = 5; limit 49.875 = 5
                limit 50 = 6; limit 112.375 = 6
                limit 112.5 = 7; limit 1112.5 = 7
                limit 1112.625 ! IllegalArgumentException
                """);
        Sentence.holds("2: IllegalStateException if a train is placed", """
                section 50 10 = 0
                train 0 50 1 = 0
                section 50 10 ! IllegalStateException
                start 0 = 1
                section 50 10 ! IllegalStateException
                end 0
                section 50 10 ! IllegalStateException
                """);
        Sentence.holds("2: a train that is refused is not placed", """
                section 50 10 = 0
                train 0 50.125 1 ! IllegalArgumentException
                section 50 10 = 1
                """);
        Sentence.holds("2: the longest line, 10 sections of 1000, with all that may stand on it", """
                10 x section 1000 60
                5 x restrict 9999.875 10000 5
                limit 10000 = 60
                limit 10000.125 ! IllegalArgumentException
                train 9 50 2; train 0 10 1; train 1 50 0.5
                of 0 0 = 9050
                ask 0 9 = 1
                take 0 0 = 1
                of 0 4 = 10000
                start 0 = 2
                second 0 1 0 = 2
                second 0 -1 0 = 2
                end 0 = 0
                holds 9 0 = 0; holds 9 1 = 0; holds 8 0 = -1
                ask 2 8 = 1
                holds 8 0 = 2
                ask 2 9 ! IllegalStateException
                end 2 = 0
                holds 8 0 = -1; holds 0 0 = 1; holds 1 0 = 2
                """);
    }

    private static void sectionNumbers() {
        Sentence.holds("2: a section's length 50 .. 1000", """
                section 49.875 10 ! IllegalArgumentException
                section 50 10 = 0
                section 50.125 10 = 1
                section 999.875 10 = 2
                section 1000 10 = 3
                section 1000.125 10 ! IllegalArgumentException
                section 0 10 ! IllegalArgumentException
                section -50 10 ! IllegalArgumentException
                section NaN 10 ! IllegalArgumentException
                section Infinity 10 ! IllegalArgumentException
                section -Infinity 10 ! IllegalArgumentException
                section 1e300 10 ! IllegalArgumentException
                limit 2100 = 10
                limit 2100.125 ! IllegalArgumentException
                """);
        Sentence.holds("2: a section's SPEED 1 .. 60", """
                section 50 0.875 ! IllegalArgumentException
                section 50 1 = 0
                section 50 1.125 = 1
                section 50 59.875 = 2
                section 50 60 = 3
                section 50 60.125 ! IllegalArgumentException
                section 50 0 ! IllegalArgumentException
                section 50 -1 ! IllegalArgumentException
                section 50 NaN ! IllegalArgumentException
                section 50 Infinity ! IllegalArgumentException
                section 50 -Infinity ! IllegalArgumentException
                limit 0 = 1; limit 50 = 1.125; limit 100 = 59.875; limit 150 = 60
                """);
    }

    private static void restrictions() {
        Sentence.holds("3: RESTRICTIONS, at most 5", """
                section 100 20
                restrict 0 10 5 = 1
                restrict 10 20 5 = 2
                restrict 20 30 5 = 3
                restrict 30 40 5 = 4
                restrict 40 50 5 = 5
                2 x restrict 50 60 5 ! IllegalStateException
                count 1 = 5
                limit 50 = 20
                """);
        Sentence.holds("3: there is room again behind a release", """
                section 100 20
                5 x restrict 0 10 5
                restrict 50 60 5 ! IllegalStateException
                release 4 = 4
                restrict 50 60 5 = 5
                limit 50 = 5
                restrict 50 60 5 ! IllegalStateException
                """);
        Sentence.holds("3: a RESTRICTION is not tied to a section", """
                restrict 0 10 5 = 1
                restrict 9000 10000 5 = 2
                section 50 20
                limit 0 = 5
                limit 10 = 20
                limit 50 = 20
                """);
    }

    private static void restrictionNumbers() {
        Sentence.holds("3: from 0 or above", """
                section 50 20
                restrict -0.125 10 5 ! IllegalArgumentException
                restrict -Infinity 10 5 ! IllegalArgumentException
                restrict NaN 10 5 ! IllegalArgumentException
                restrict 0 10 5 = 1
                restrict 0.125 10 4 = 2
                limit 0 = 5
                limit 0.125 = 4
                """);
        Sentence.holds("3: to above from", """
                section 50 20
                restrict 10 9.875 5 ! IllegalArgumentException
                restrict 10 10 5 ! IllegalArgumentException
                restrict 0 0 5 ! IllegalArgumentException
                restrict 10 NaN 5 ! IllegalArgumentException
                restrict 10 -Infinity 5 ! IllegalArgumentException
                restrict 10 10.125 5 = 1
                limit 9.875 = 20; limit 10 = 5; limit 10.125 = 20
                """);
        Sentence.holds("3: to at most 10000", """
                10 x section 1000 20
                restrict 9000 10000.125 5 ! IllegalArgumentException
                restrict 10000 10000.125 5 ! IllegalArgumentException
                restrict 10000 10000 5 ! IllegalArgumentException
                restrict 0 Infinity 5 ! IllegalArgumentException
                restrict 9999.75 9999.875 5 = 1
                restrict 9999.875 10000 5 = 2
                limit 9999.875 = 5
                limit 10000 = 20
                """);
        Sentence.holds("3: a RESTRICTION's speed 1 .. 60", """
                section 100 60
                restrict 0 10 0.875 ! IllegalArgumentException
                restrict 0 10 0 ! IllegalArgumentException
                restrict 0 10 -5 ! IllegalArgumentException
                restrict 0 10 60.125 ! IllegalArgumentException
                restrict 0 10 NaN ! IllegalArgumentException
                restrict 0 10 Infinity ! IllegalArgumentException
                restrict 0 10 1 = 1
                restrict 10 20 1.125 = 2
                restrict 20 30 59.875 = 3
                restrict 30 40 60 = 4
                limit 0 = 1; limit 10 = 1.125; limit 20 = 59.875; limit 30 = 60
                """);
    }

    private static void restrictWithTrains() {
        Sentence.holds("3: a train is not in STANDBY: UnsupportedOperationException", """
                section 100 20
                restrict 0 10 5 = 1
                train 0 20 1
                restrict 0 10 5 = 2
                start 0 = 1
                restrict 0 10 5 ! UnsupportedOperationException
                end 0
                restrict 0 10 5 = 3
                ask 0 0; take 0 0
                start 0 = 2
                restrict 0 10 5 ! UnsupportedOperationException
                stop 0; take 0 0
                mode 0 = 3
                restrict 0 10 5 ! UnsupportedOperationException
                acknowledge 0 = 4
                restrict 0 10 5 ! UnsupportedOperationException
                end 0
                restrict 0 10 5 = 4
                """);
        String trains = "3 x section 100 20; train 0 20 1; train 1 20 1; train 2 20 1; restrict 0 10 5 = 1;";
        for (int train = 0; train < 3; train++) {
            Sentence.holds("3: a train is not in STANDBY, be it train " + train, trains
                    + "start " + train + " = 1; restrict 0 10 5 ! UnsupportedOperationException;"
                    + "end " + train + "; restrict 0 10 5 = 2");
        }
    }

    private static void releases() {
        String three = "section 100 20; restrict 0 10 5; restrict 10 20 6; restrict 20 30 7;";
        Sentence.holds("4: the k-th RESTRICTION (from 0)", three + """
                release -1 ! IllegalArgumentException
                release 3 ! IllegalArgumentException
                release 4 ! IllegalArgumentException
                release LEAST ! IllegalArgumentException
                release GREATEST ! IllegalArgumentException
                release 2 = 2
                release 2 ! IllegalArgumentException
                release 0 = 1
                release 1 ! IllegalArgumentException
                release 0 = 0
                release 0 ! IllegalArgumentException
                """);
        Sentence.holds("4: the first is gone, those behind it have a number less", three + """
                release 0 = 2
                limit 0 = 20; limit 10 = 6; limit 20 = 7
                release 0 = 1
                limit 10 = 20; limit 20 = 7
                """);
        Sentence.holds("4: one between is gone, those behind it have a number less", three + """
                release 1 = 2
                limit 0 = 5; limit 10 = 20; limit 20 = 7
                release 1 = 1
                limit 0 = 5; limit 20 = 20
                """);
        Sentence.holds("4: the last of five is gone", """
                section 100 20
                restrict 0 10 5; restrict 10 20 6; restrict 20 30 7; restrict 30 40 8; restrict 40 50 9
                release 5 ! IllegalArgumentException
                release 4 = 4
                limit 0 = 5; limit 10 = 6; limit 20 = 7; limit 30 = 8; limit 40 = 20
                """);
        Sentence.holds("4: it asks for no mode", three + """
                train 0 20 1
                ask 0 0; take 0 0; start 0 = 2
                release 0 = 2
                stop 0; take 0 0; mode 0 = 3
                release 0 = 1
                acknowledge 0 = 4
                release 0 = 0
                """);
    }

    private static void limits() {
        Sentence.holds("LIMIT: a section's begin is in it", """
                section 50 5; section 50 6
                limit 49.875 = 5; limit 50 = 6; limit 50.125 = 6
                """);
        Sentence.holds("LIMIT: the line's end is in the last one", """
                section 50 5; section 50 6
                limit 99.875 = 6; limit 100 = 6
                section 50 7
                limit 99.875 = 6; limit 100 = 7; limit 150 = 7
                """);
        Sentence.holds("LIMIT: with from at or below it", """
                section 50 20
                restrict 10 20 5
                limit 9.875 = 20; limit 10 = 5; limit 10.125 = 5
                """);
        Sentence.holds("LIMIT: and to above it", """
                section 50 20
                restrict 10 20 5
                limit 19.875 = 5; limit 20 = 20; limit 20.125 = 20
                """);
        Sentence.holds("LIMIT: the least of the SPEED and the speeds of the RESTRICTIONS", """
                section 50 20
                restrict 0 10 19.875; restrict 10 20 20; restrict 20 30 20.125
                limit 0 = 19.875; limit 10 = 20; limit 20 = 20
                restrict 0 30 12; restrict 5 10 11.875
                limit 0 = 12; limit 4.875 = 12; limit 5 = 11.875; limit 10 = 12; limit 20 = 12; limit 30 = 20
                """);
        Sentence.holds("LIMIT: a RESTRICTION over a section's begin", """
                section 50 20; section 50 8
                restrict 40 60 10
                limit 39.875 = 20; limit 40 = 10; limit 49.875 = 10; limit 50 = 8; limit 60 = 8
                """);
        Sentence.holds("LIMIT: a RESTRICTION at the line's end", """
                section 50 20
                restrict 40 50 5
                limit 49.875 = 5; limit 50 = 20
                restrict 40 50.125 6
                limit 50 = 6
                restrict 50 60 4
                limit 49.875 = 5; limit 50 = 4
                """);
    }

    private static void limitPlaces() {
        Sentence.holds("15: a place from 0 to the line's end", """
                section 50 5; section 60.5 6
                limit -0.125 ! IllegalArgumentException
                limit 0 = 5
                limit 0.125 = 5
                limit 110.375 = 6
                limit 110.5 = 6
                limit 110.625 ! IllegalArgumentException
                limit NaN ! IllegalArgumentException
                limit Infinity ! IllegalArgumentException
                limit -Infinity ! IllegalArgumentException
                """);
        Sentence.holds("15: without sections none", """
                limit 0 ! IllegalArgumentException
                restrict 0 10 5 = 1
                limit 0 ! IllegalArgumentException
                limit 5 ! IllegalArgumentException
                section 50 20
                limit 0 = 5
                """);
    }
}
