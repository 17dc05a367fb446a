/** Boundaries of a SECOND and of promises 10 and 11, a sentence each. */
public final class SecondBoundaryTest {
    private static final String FULL = "ask 0 0; take 0 0 = 1; start 0 = 2;";
    private static final String TRIP = "stop 0; take 0 0 = 0; mode 0 = 3;";

    public static void main(String[] args) {
        numbers();
        nothingMoves();
        wishes();
        guardBrakes();
        tripBrakes();
        slips();
        sectionBegins();
        twoBeginsInASecond();
        lineEnd();
        lineEndInFull();
        aboveTheAuthority();
        freeing();
        wetness();
        manyCalls();
        Check.finish();
    }

    private static void numbers() {
        Sentence.holds("10: with a from -2 to 1", """
                section 100 60; train 0 20 1; start 0
                3 x second 0 1 0
                second 0 -2.125 0 ! IllegalArgumentException
                second 0 1.125 0 ! IllegalArgumentException
                second 0 NaN 0 ! IllegalArgumentException
                second 0 Infinity 0 ! IllegalArgumentException
                second 0 -Infinity 0 ! IllegalArgumentException
                of 0 3 = 3
                second 0 -2 0 = 1
                of 0 3 = 1
                second 0 1 0 = 1
                of 0 3 = 2
                """);
        Sentence.holds("10: and a slip -1, 0 or 1", """
                section 100 60; train 0 20 1; start 0
                second 0 1 -2 ! IllegalArgumentException
                second 0 1 2 ! IllegalArgumentException
                second 0 1 LEAST ! IllegalArgumentException
                second 0 1 GREATEST ! IllegalArgumentException
                second 0 1 -1 = 1
                second 0 1 0 = 1
                second 0 1 1 = 1
                """);
        Sentence.holds("10: numbers out of range are refused where nothing moves too", """
                section 100 60; train 0 20 1
                second 0 1.125 0 ! IllegalArgumentException
                second 0 0 2 ! IllegalArgumentException
                second 1 0 0 ! IllegalArgumentException
                second -1 0 0 ! IllegalArgumentException
                start 0; stop 0; take 0 0; acknowledge 0 = 4
                second 0 -2.125 0 ! IllegalArgumentException
                second 0 0 -2 ! IllegalArgumentException
                """);
    }

    private static void nothingMoves() {
        String where = "of 0 0 = 20; of 0 1 = 20; of 0 2 = 0; of 0 3 = 0;";
        Sentence.holds("SECOND: in STANDBY nothing moves",
                "section 100 60; train 0 20 1; second 0 1 1 = 0;" + where + FULL + "end 0; second 0 1 1 = 0;" + where);
        Sentence.holds("SECOND: in POST nothing moves", "section 100 60; train 0 20 1; start 0;" + TRIP
                + "acknowledge 0 = 4; second 0 1 1 = 4;" + where + "acknowledge 0 = 1; second 0 1 0 = 1; of 0 3 = 1");
    }

    private static void wishes() {
        Sentence.holds("SECOND: the wish is at least 0", """
                section 100 60; train 0 20 1; start 0
                2 x second 0 1 0; second 0 0.125 0
                of 0 3 = 2.125; of 0 1 = 24.0625
                second 0 -2 0
                of 0 3 = 0.125; of 0 1 = 25.1875
                second 0 -0.125 0
                of 0 3 = 0; of 0 1 = 25.25
                second 0 -0.125 0
                of 0 3 = 0; of 0 1 = 25.25
                second 0 1 0; second 0 -2 0
                of 0 3 = 0; of 0 1 = 26.25
                """);
        Sentence.holds("SECOND: the wish is in STAFF at most 5", """
                section 100 60; train 0 20 1; start 0
                4 x second 0 1 0; second 0 0.875 0
                of 0 3 = 4.875; of 0 1 = 32.4375
                second 0 0.125 0
                of 0 3 = 5; of 0 1 = 37.375
                second 0 0.125 0
                of 0 3 = 5; of 0 1 = 42.375
                second 0 -0.125 0; second 0 1 0
                of 0 3 = 5; of 0 1 = 52.25
                """);
        Sentence.holds("SECOND: the wish is in FULL above 5 too", "section 1000 60; train 0 20 1;" + FULL + """
                5 x second 0 1 0
                of 0 3 = 5
                second 0 0.125 0
                of 0 3 = 5.125; count 4 = 0
                """);
        Sentence.holds("SECOND: in STAFF no guard brakes, above the LIMIT or at the AUTHORITY", """
                section 50 1; section 50 1; train 0 45 1; start 0
                second 0 1 0
                ask 0 0; take 0 0 = 1
                4 x second 0 1 0
                of 0 3 = 5; of 0 0 = 57.5; count 4 = 0
                """);
    }

    private static void guardBrakes() {
        String slow = "section 100 1.5;";
        Sentence.holds("SECOND: the guard brakes: w is v - BRAKE, above 0", slow + "train 0 20 1;" + FULL + """
                second 0 1 0; second 0 0.5 0
                of 0 3 = 1.5; of 0 1 = 21.75; count 4 = 0
                second 0 0.125 0
                of 0 3 = 0.5; of 0 1 = 22.75; count 4 = 1
                """);
        Sentence.holds("SECOND: the guard brakes: w is v - BRAKE, 0 just", slow + "train 0 20 1.5;" + FULL + """
                second 0 1 0; second 0 0.5 0; second 0 0.125 0
                of 0 3 = 0; of 0 1 = 22.5; count 4 = 1
                """);
        Sentence.holds("SECOND: the guard brakes: w is at least 0", slow + "train 0 20 2;" + FULL + """
                second 0 1 0; second 0 0.5 0; second 0 0.125 0
                of 0 3 = 0; of 0 1 = 22.5; count 4 = 1
                """);
        Sentence.holds("SECOND: the guard brakes: half of BRAKE if WET", slow + "train 0 20 1; wet 0 true;" + FULL + """
                second 0 1 0; second 0 0.5 0; second 0 0.125 0
                of 0 3 = 1; of 0 1 = 23; count 4 = 1
                """);
        Sentence.holds("SECOND: half of BRAKE in sixteenths", slow + "train 0 20 0.625; wet 0 true;" + FULL + """
                second 0 1 0; second 0 0.5 0; second 0 0.125 0
                of 0 3 = 1.1875; of 0 1 = 23.09375; of 0 2 = 0.38671875; count 4 = 1
                """);
        Sentence.holds("SECOND: the guard brakes by BRAKE, though the wish be slower",
                "2 x section 50 60; train 0 48.25 0.5; wet 0 true;" + FULL + """
                2 x second 0 1 -1
                of 0 3 = 0.75; of 0 1 = 49.625; count 4 = 1
                second 0 -2 -1 = 2
                of 0 3 = 0.5; of 0 0 = 50; count 4 = 2
                """);
    }

    private static void tripBrakes() {
        String at5 = "start 0; 5 x second 0 1 0; of 0 3 = 5; of 0 1 = 32.5;" + TRIP;
        Sentence.holds("SECOND: in TRIP w is v - BRAKE, at least 0", "section 100 60; train 0 20 2;" + at5 + """
                second 0 1 0 = 3
                of 0 3 = 3; of 0 1 = 36.5
                second 0 1 0
                of 0 3 = 1; of 0 1 = 38.5
                second 0 1 0
                of 0 3 = 0; of 0 1 = 39
                second 0 1 0 = 3
                of 0 3 = 0; of 0 1 = 39; count 4 = 0
                """);
        Sentence.holds("SECOND: in TRIP w comes to 0 just", "section 100 60; train 0 20 1.25;" + at5 + """
                3 x second 0 0 0
                of 0 3 = 1.25
                second 0 0 0
                of 0 3 = 0; of 0 1 = 42.5
                """);
        Sentence.holds("SECOND: in TRIP always, though the wish be slower", "section 100 60; train 0 20 0.5;" + at5 + """
                second 0 -2 0
                of 0 3 = 4.5; of 0 1 = 37.25
                """);
        Sentence.holds("SECOND: in TRIP half of BRAKE if WET", "section 100 60; train 0 20 0.625;" + at5 + """
                wet 0 true
                second 0 0 0
                of 0 3 = 4.6875; of 0 1 = 37.34375
                wet 0 false
                second 0 0 0
                of 0 3 = 4.0625; of 0 1 = 41.71875
                """);
    }

    private static void slips() {
        String drive = "section 100 60; train 0 20 1; start 0; second 0 1 0; of 0 0 = 20.5; of 0 2 = 0.0625;";
        Sentence.holds("SECOND: REAL by way * (1 + 0.125 * slip), slip -1", drive
                + "second 0 1 -1; of 0 0 = 21.8125; of 0 1 = 22; of 0 2 = 0.25");
        Sentence.holds("SECOND: REAL by way * (1 + 0.125 * slip), slip 0", drive
                + "second 0 1 0; of 0 0 = 22; of 0 1 = 22; of 0 2 = 0.25");
        Sentence.holds("SECOND: REAL by way * (1 + 0.125 * slip), slip 1", drive
                + "second 0 1 1; of 0 0 = 22.1875; of 0 1 = 22; of 0 2 = 0.25");
    }

    private static void sectionBegins() {
        Sentence.holds("SECOND: REAL has come to a section's begin", """
                2 x section 50 60; train 0 48.875 1; start 0
                second 0 1 1
                of 0 0 = 49.4375; of 0 1 = 49.375; of 0 2 = 0.0625
                second 0 -1 1
                of 0 0 = 50; of 0 1 = 50; of 0 2 = 0; of 0 3 = 0
                """);
        Sentence.holds("SECOND: REAL has come past a section's begin", """
                2 x section 50 60; train 0 49 1; start 0
                second 0 1 1
                of 0 0 = 49.5625; of 0 1 = 49.5
                second 0 -1 1
                of 0 0 = 50.125; of 0 1 = 50.125; of 0 2 = 0
                """);
        Sentence.holds("SECOND: REAL is before a section's begin, MEASURED past it", """
                2 x section 50 60; train 0 49 1; start 0
                second 0 0.75 -1; second 0 0 -1
                of 0 0 = 49.984375; of 0 1 = 50.125; of 0 2 = 0.140625
                """);
        Sentence.holds("SECOND: a section's begin that REAL was not below before", """
                2 x section 50 60; train 0 50 1; start 0
                of 0 0 = 50
                second 0 1 1
                of 0 0 = 50.5625; of 0 1 = 50.5; of 0 2 = 0.0625
                """);
        Sentence.holds("SECOND: at a begin it stands: nothing is set again", """
                2 x section 50 60; train 0 49.5 1; start 0
                second 0 1 0
                of 0 0 = 50; of 0 1 = 50; of 0 2 = 0; of 0 3 = 1
                second 0 -1 -1
                of 0 0 = 50.4375; of 0 1 = 50.5; of 0 2 = 0.0625
                second 0 0 0
                of 0 0 = 50.4375; of 0 1 = 50.5; of 0 2 = 0.0625
                """);
    }

    private static void twoBeginsInASecond() {
        Sentence.holds("SECOND: REAL has come past one section's begin and to another", """
                3 x section 1000 60; 2 x section 50 60; 5 x section 1000 60
                train 0 50 2; ask 0 9; take 0 0; start 0 = 2
                60 x second 0 1 0
                19 x second 0 0 0
                of 0 3 = 60; of 0 0 = 2990; of 0 2 = 120
                second 0 0 0 = 2
                of 0 0 = 3050; of 0 1 = 3050; of 0 2 = 0; count 4 = 0
                holds 2 1 = -1; holds 3 1 = 0; holds 4 1 = -1; holds 2 0 = -1; holds 3 0 = 0
                """);
    }

    private static void lineEnd() {
        String drive = "start 0; second 0 1 0;";
        Sentence.holds("SECOND: REAL has come to the line's end", "section 50 60; train 0 49.5 1;" + drive + """
                of 0 0 = 50; of 0 1 = 50; of 0 2 = 0; of 0 3 = 0
                """);
        Sentence.holds("SECOND: REAL has come past the line's end", "section 50 60; train 0 49.625 1;" + drive + """
                of 0 0 = 50; of 0 1 = 50; of 0 2 = 0; of 0 3 = 0
                second 0 1 1 = 1
                of 0 0 = 50; of 0 1 = 50; of 0 2 = 0; of 0 3 = 0
                """);
        Sentence.holds("SECOND: REAL is an eighth before the line's end", "section 50 60; train 0 49.375 1;" + drive + """
                of 0 0 = 49.875; of 0 1 = 49.875; of 0 2 = 0.0625; of 0 3 = 1
                """);
        Sentence.holds("SECOND: MEASURED goes above the line's end, REAL does not", """
                section 50 60; train 0 49 1; start 0
                second 0 0.75 -1; second 0 0 -1
                of 0 0 = 49.984375; of 0 1 = 50.125; of 0 2 = 0.140625; of 0 3 = 0.75
                second 0 0 -1
                of 0 0 = 50; of 0 1 = 50; of 0 2 = 0; of 0 3 = 0
                """);
        Sentence.holds("SECOND: before the line's end in TRIP", """
                section 50 60; train 0 48 0.5; start 0
                second 0 1 0
                stop 0; take 0 0
                second 0 1 0 = 3
                of 0 0 = 49.25; of 0 3 = 0.5
                second 0 1 1 = 3
                of 0 0 = 49.53125; of 0 3 = 0
                """);
        Sentence.holds("SECOND: past the line's end in TRIP", """
                section 50 60; train 0 48.875 0.5; start 0
                second 0 1 0
                stop 0; take 0 0
                second 0 1 0 = 3
                of 0 0 = 50; of 0 1 = 50; of 0 2 = 0; of 0 3 = 0
                acknowledge 0 = 4
                """);
    }

    /** Both come to the line's end on slipping wheels and wet brakes; only there the AUTHORITY can't be passed. */
    private static void lineEndInFull() {
        String drive = "train 0 48.875 1; wet 0 true;" + FULL + "2 x second 0 1 1;";
        Sentence.holds("SECOND: past the AUTHORITY at the line's end is at it", "section 50 60;" + drive + """
                mode 0 = 2; of 0 0 = 50; of 0 1 = 50; of 0 2 = 0; of 0 3 = 0; of 0 4 = 50; count 4 = 1; count 5 = 0
                """);
        Sentence.holds("SECOND: past the AUTHORITY before the line's end", "2 x section 50 60;" + drive + """
                mode 0 = 3; of 0 0 = 50.28125; of 0 3 = 0.5; of 0 4 = -1; count 4 = 1; count 5 = 1
                """);
    }

    private static void aboveTheAuthority() {
        Sentence.holds("SECOND: in FULL: REAL is at the AUTHORITY", "2 x section 50 60; train 0 48.875 1;" + FULL + """
                second 0 1 1 = 2
                second 0 1 1 = 2
                of 0 0 = 50; of 0 4 = 50; mode 0 = 2; count 5 = 0
                """);
        Sentence.holds("SECOND: in FULL: REAL is a 64th above the AUTHORITY: TRIP, with no AUTHORITY",
                "2 x section 50 60; train 0 48.75 1.5; wet 0 true;" + FULL + """
                second 0 1 1 = 2
                second 0 1 1 = 3
                of 0 0 = 50.015625; of 0 3 = 0.25; of 0 4 = -1; mode 0 = 3; count 5 = 1
                """);
        Sentence.holds("SECOND: MEASURED and MARGIN are above the AUTHORITY, REAL is not",
                "2 x section 50 60; train 0 48.875 1; wet 0 true;" + FULL + """
                2 x second 0 1 -1
                of 0 0 = 49.96875; of 0 1 = 50.125; of 0 3 = 0.5; mode 0 = 2; count 5 = 0
                """);
        Sentence.holds("SECOND: in STAFF REAL may be above the AUTHORITY", """
                2 x section 50 60; train 0 48 1; start 0
                second 0 0.5 0
                ask 0 0; take 0 0 = 1
                2 x second 0 1 0 = 1
                of 0 0 = 51.25; of 0 4 = 50; mode 0 = 1; count 5 = 0
                """);
    }

    private static void freeing() {
        String nearlyOut = """
                3 x section 50 60; train 0 50 1; start 0; ask 0 1
                5 x second 0 1 0
                6 x second 0 0 0
                2 x second 0 -2 0
                second 0 -0.875 0
                7 x second 0 0 0
                of 0 0 = 99.9375
                """;
        Sentence.holds("SECOND: a section whose end is above the rear is HELD still", nearlyOut + "holds 0 0 = 0");
        Sentence.holds("SECOND: a section whose end is at the rear is not HELD any more", nearlyOut + """
                second 0 -0.125 0
                of 0 0 = 100
                holds 0 0 = -1; holds 1 0 = 0
                """);
        Sentence.holds("SECOND: a section whose end is below the rear is not HELD any more", nearlyOut + """
                second 0 1 0
                of 0 0 = 100.5625
                holds 0 0 = -1; holds 1 0 = 0
                """);
        Sentence.holds("SECOND: in TRIP sections are left too", nearlyOut + """
                stop 0; take 0 0
                second 0 0 0 = 3
                of 0 0 = 100
                holds 0 0 = -1; holds 1 0 = 0
                """);
        Sentence.holds("SECOND: a section below the rear that another one HOLDS", """
                4 x section 50 60; train 1 10 1; train 0 10 1; start 1
                5 x second 1 1 0
                20 x second 1 0 0
                of 1 0 = 122.5
                holds 0 0 = -1; holds 1 0 = 0; holds 1 1 = 0
                """);
    }

    private static void wetness() {
        String drive = "section 100 60; train 0 20 1; start 0; 5 x second 0 1 0; of 0 3 = 5;" + TRIP;
        Sentence.holds("11: the train is WET, or not any more: 0", drive + """
                second 0 0 0; of 0 3 = 4
                wet 0 true = 0; second 0 0 0; of 0 3 = 3.5
                wet 0 true = 0; second 0 0 0; of 0 3 = 3
                wet 0 false = 0; second 0 0 0; of 0 3 = 2
                wet 0 false = 0; second 0 0 0; of 0 3 = 1
                """);
        Sentence.holds("11: in every mode", """
                section 50 60; train 0 50 1
                wet 0 true = 0
                start 0; wet 0 false = 0
                ask 0 0; take 0 0; mode 0 = 2; wet 0 true = 0
                stop 0; take 0 0; wet 0 false = 0
                acknowledge 0 = 4; wet 0 true = 0
                """);
        Sentence.holds("11: no such train", """
                wet 0 true ! IllegalArgumentException
                section 50 60; train 0 50 1
                wet -1 true ! IllegalArgumentException
                wet 1 true ! IllegalArgumentException
                wet LEAST false ! IllegalArgumentException
                wet GREATEST false ! IllegalArgumentException
                """);
        Sentence.holds("11: the one train alone", """
                2 x section 50 60; train 0 10 1; train 1 10 1
                start 0; start 1
                3 x second 0 1 0; 3 x second 1 1 0
                wet 1 true
                stop 0; take 0 0; stop 1; take 1 0
                second 0 0 0; second 1 0 0
                of 0 3 = 2; of 1 3 = 2.5
                """);
        Sentence.holds("11: it is WET until it is said not to be, behind end and start too", """
                section 100 60; train 0 20 1; wet 0 true; start 0 = 1; end 0; start 0 = 1
                3 x second 0 1 0
                stop 0; take 0 0
                second 0 0 0
                of 0 3 = 2.5
                5 x second 0 0 0
                acknowledge 0 = 4; acknowledge 0 = 1
                3 x second 0 1 0
                stop 0; take 0 0
                second 0 0 0
                of 0 3 = 2.5
                """);
        Sentence.holds("11: in STAFF the train slows as it wishes", """
                section 100 60; train 0 20 1; wet 0 true; start 0
                3 x second 0 1 0; second 0 -2 0
                of 0 3 = 1
                """);
    }

    private static void manyCalls() {
        Sentence.holds("an object is used for at most 512 calls", """
                section 1000 60; train 0 10 1; start 0
                second 0 0.125 1
                504 x second 0 0 1
                of 0 0 = 80.9453125
                of 0 1 = 73.0625
                of 0 2 = 7.8828125
                mode 0 = 1
                """);
    }
}
