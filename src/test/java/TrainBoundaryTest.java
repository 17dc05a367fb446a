/** Boundaries of TRAINS (numbers, IN, HEAD, HELD) and of promises 5, 14, 16 and 17, a sentence each. */
public final class TrainBoundaryTest {
    /** Train 0, 50 long, goes 49.9375 from section 0 of 50 on, at the speed 0.125. */
    private static final String NEARLY_OUT = """
            train 0 50 1; start 0
            5 x second 0 1 0
            6 x second 0 0 0
            2 x second 0 -2 0
            second 0 -0.875 0
            7 x second 0 0 0
            of 0 0 = 99.9375; of 0 3 = 0.125
            """;
    private static final String THE_LAST_SIXTEENTH = "second 0 -0.125 0; of 0 0 = 100; of 0 3 = 0;";

    public static void main(String[] args) {
        numbers();
        beingIn();
        head();
        placing();
        placingWhereOthersAre();
        reading();
        holding();
        Check.finish();
    }

    private static void numbers() {
        Sentence.holds("5: TRAINS 0 .. 2, as they are placed", """
                4 x section 50 10
                mode 0 ! IllegalArgumentException
                train 3 10 1 = 0
                mode 0 = 0
                mode 1 ! IllegalArgumentException
                train 1 10 1 = 1
                train 0 10 1 = 2
                mode 2 = 0
                mode 3 ! IllegalArgumentException
                mode -1 ! IllegalArgumentException
                count 2 = 3
                """);
        Sentence.holds("5: IllegalStateException, as with 3 trains", """
                5 x section 50 10
                train 0 10 1; train 1 10 1
                count 2 = 2
                train 2 10 1 = 2
                train 3 10 1 ! IllegalStateException
                train 4 50 2 ! IllegalStateException
                count 2 = 3
                holds 3 0 = -1
                """);
        Sentence.holds("5: a train's length 10 .. 50", """
                3 x section 60 10
                train 0 9.875 1 ! IllegalArgumentException
                train 0 50.125 1 ! IllegalArgumentException
                train 0 0 1 ! IllegalArgumentException
                train 0 -10 1 ! IllegalArgumentException
                train 0 NaN 1 ! IllegalArgumentException
                train 0 Infinity 1 ! IllegalArgumentException
                train 0 10 1 = 0
                train 1 50 1 = 1
                train 2 49.875 1 = 2
                of 0 0 = 10; of 1 0 = 110; of 2 0 = 169.875
                """);
        Sentence.holds("5: a BRAKE 0.5 .. 2", """
                3 x section 60 10
                train 0 10 0.375 ! IllegalArgumentException
                train 0 10 2.125 ! IllegalArgumentException
                train 0 10 0 ! IllegalArgumentException
                train 0 10 -1 ! IllegalArgumentException
                train 0 10 NaN ! IllegalArgumentException
                train 0 10 Infinity ! IllegalArgumentException
                train 0 10 0.5 = 0
                train 1 10 2 = 1
                train 2 10 1.875 = 2
                """);
        Sentence.holds("5: no such section: IllegalArgumentException", """
                train 0 10 1 ! IllegalArgumentException
                2 x section 50 10
                train -1 10 1 ! IllegalArgumentException
                train 2 10 1 ! IllegalArgumentException
                train LEAST 10 1 ! IllegalArgumentException
                train GREATEST 10 1 ! IllegalArgumentException
                train 1 10 1 = 0
                train 0 10 1 = 1
                """);
    }

    private static void beingIn() {
        Sentence.holds("IN: each section whose begin is below REAL", """
                2 x section 50 60
                train 0 50 1; start 0
                of 0 0 = 50
                holds 0 1 = 0; holds 1 1 = -1
                second 0 0.125 0
                of 0 0 = 50.0625
                holds 0 1 = 0; holds 1 1 = 0
                """);
        Sentence.holds("IN: and whose end is above its rear", "3 x section 50 60;" + NEARLY_OUT + """
                holds 0 1 = 0; holds 1 1 = 0; holds 2 1 = -1
                """ + THE_LAST_SIXTEENTH + """
                holds 0 1 = -1; holds 1 1 = 0; holds 2 1 = -1
                """);
        Sentence.holds("IN: a train at the line's end is in the last section", """
                section 50 60; section 50 60
                train 0 10 1; start 0
                30 x second 0 1 0
                of 0 0 = 100
                holds 0 1 = -1; holds 1 1 = 0
                """);
        Sentence.holds("IN: it is REAL that counts, not MEASURED", """
                2 x section 50 60
                train 0 49 1; start 0
                second 0 0.75 -1; second 0 0 -1
                of 0 0 = 49.984375; of 0 1 = 50.125
                holds 1 1 = -1
                second 0 -0.75 -1
                of 0 0 = 50.3125
                holds 1 1 = 0
                """);
    }

    private static void head() {
        Sentence.holds("HEAD: with the front at a section's begin it is the one before", """
                2 x section 50 60
                train 0 50 1; start 0
                ask 0 0 = 1
                second 0 0.125 0
                ask 0 0 ! IllegalArgumentException
                ask 0 1 = 2
                """);
        Sentence.holds("HEAD: the last one of those that it is IN", "4 x section 50 60;" + NEARLY_OUT + """
                ask 0 0 ! IllegalArgumentException
                ask 0 1 = 1
                """ + THE_LAST_SIXTEENTH + """
                ask 0 0 ! IllegalArgumentException
                ask 0 1 = 2
                second 0 0.125 0
                ask 0 1 ! IllegalArgumentException
                ask 0 2 = 3
                """);
        Sentence.holds("HEAD: at the line's end it is the last section", """
                2 x section 50 60
                train 0 50 1; start 0
                30 x second 0 1 0
                of 0 0 = 100
                ask 0 0 ! IllegalArgumentException
                ask 0 1 = 1
                """);
    }

    private static void placing() {
        Sentence.holds("5: its rear at the section's begin, standing, in STANDBY, HOLDS the section", """
                section 62.5 10; section 50 10
                train 1 12.5 0.5 = 0
                of 0 0 = 75; of 0 1 = 75; of 0 2 = 0; of 0 3 = 0; of 0 4 = -1; of 0 5 = 0
                mode 0 = 0
                holds 1 0 = 0; holds 1 1 = 0; holds 0 0 = -1; holds 0 1 = -1
                take 0 0 ! NoSuchElementException
                """);
        Sentence.holds("5: a train as long as its section", """
                section 50 10
                train 0 50.125 1 ! IllegalArgumentException
                train 0 50 1 = 0
                of 0 0 = 50
                holds 0 1 = 0
                """);
    }

    private static void placingWhereOthersAre() {
        Sentence.holds("5: the section is HELD by no train", """
                4 x section 50 10
                train 0 10 1; ask 0 2
                holds 2 0 = 0; holds 2 1 = -1; holds 3 0 = -1
                train 0 10 1 ! IllegalStateException
                train 1 10 1 ! IllegalStateException
                train 2 10 1 ! IllegalStateException
                train 3 10 1 = 1
                """);
        Sentence.holds("5: one that is not HELD any more behind end", """
                2 x section 50 10
                train 0 10 1; ask 0 1
                train 1 10 1 ! IllegalStateException
                end 0
                train 1 10 1 = 1
                """);
        Sentence.holds("5: and no train is IN it, whose front has come past its begin", """
                3 x section 50 60
                train 0 50 1; start 0
                second 0 0.125 0
                holds 1 0 = -1; holds 1 1 = 0
                train 1 10 1 ! IllegalStateException
                train 2 10 1 = 1
                """);
        Sentence.holds("5: a train with its front at the section's begin is not IN it", """
                2 x section 50 60
                train 0 50 1
                train 1 50 1 = 1
                of 1 0 = 100
                """);
        Sentence.holds("5: and no train is IN it, whose rear is before its end", "3 x section 50 60;" + NEARLY_OUT + """
                train 0 10 1 ! IllegalStateException
                """ + THE_LAST_SIXTEENTH + """
                train 0 50 1 = 1
                holds 0 0 = 1
                """);
    }

    private static void reading() {
        Sentence.holds("14: of answers 0 .. 5", """
                section 100 60
                train 0 20 1; ask 0 0; take 0 0; start 0 = 2
                second 0 1 1
                of 0 -1 ! IllegalArgumentException
                of 0 0 = 20.5625; of 0 1 = 20.5; of 0 2 = 0.0625; of 0 3 = 1; of 0 4 = 100; of 0 5 = 0.5
                of 0 6 ! IllegalArgumentException
                of 0 LEAST ! IllegalArgumentException
                of 0 GREATEST ! IllegalArgumentException
                of 1 0 ! IllegalArgumentException
                of -1 0 ! IllegalArgumentException
                """);
        Sentence.holds("14: the AUTHORITY, -1.0 if none", """
                section 50 60
                train 0 50 1
                of 0 4 = -1
                ask 0 0
                of 0 4 = -1
                take 0 0
                of 0 4 = 50
                stop 0
                of 0 4 = 50
                take 0 0
                of 0 4 = -1
                """);
        Sentence.holds("16: the mode of a train, and of no other number", """
                2 x section 50 60
                train 0 50 1; train 1 50 1; start 1
                mode -1 ! IllegalArgumentException
                mode 0 = 0; mode 1 = 1
                mode 2 ! IllegalArgumentException
                mode LEAST ! IllegalArgumentException
                mode GREATEST ! IllegalArgumentException
                """);
    }

    private static void holding() {
        Sentence.holds("17: who HOLDS the section (0), who is IN it (1), and no other what", """
                2 x section 50 60
                train 1 50 1
                holds 0 -1 ! IllegalArgumentException
                holds 0 0 = -1; holds 0 1 = -1; holds 1 0 = 0; holds 1 1 = 0
                holds 0 2 ! IllegalArgumentException
                holds 1 LEAST ! IllegalArgumentException
                holds 1 GREATEST ! IllegalArgumentException
                """);
        Sentence.holds("17: no such section: IllegalArgumentException", """
                holds 0 0 ! IllegalArgumentException
                2 x section 50 60
                holds -1 0 ! IllegalArgumentException
                holds 1 0 = -1
                holds 2 0 ! IllegalArgumentException
                holds 2 1 ! IllegalArgumentException
                holds LEAST 0 ! IllegalArgumentException
                holds GREATEST 1 ! IllegalArgumentException
                """);
        Sentence.holds("17: the least number of two that are IN it, who does not HOLD it", """
                2 x section 50 60
                train 0 50 1; train 1 50 1
                holds 1 0 = 1; holds 1 1 = 1
                start 0; second 0 0.125 0
                holds 1 0 = 1; holds 1 1 = 0
                """);
        Sentence.holds("17: the least number of three that are IN it", """
                4 x section 50 60
                train 2 10 1; train 1 50 1; train 0 50 1
                start 0; start 1; start 2
                second 1 1 0
                5 x second 2 1 0
                8 x second 2 0 0
                holds 2 0 = 0; holds 2 1 = 0
                5 x second 0 1 0
                8 x second 0 0 0
                of 0 0 = 162.5
                holds 2 0 = -1; holds 2 1 = 1; holds 1 1 = 1; holds 0 1 = -1
                """);
    }
}
