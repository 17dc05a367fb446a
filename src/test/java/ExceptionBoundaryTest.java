/** EXCEPTIONS: their order, where a call has two causes, and that a call which ends with one changes nothing. */
public final class ExceptionBoundaryTest {
    private static final String ONE = "2 x section 50 60; train 0 40 1;";
    private static final String TRIP = "start 0; stop 0; take 0 0; mode 0 = 3;";

    /** What is refused in every mode of a train 0 on two sections with a RESTRICTION. */
    private static final String REFUSED = """
            section 49.875 10 ! IllegalArgumentException
            section 50 0.875 ! IllegalArgumentException
            section 50 10 ! IllegalStateException
            restrict -0.125 10 5 ! IllegalArgumentException
            restrict 10 10 5 ! IllegalArgumentException
            restrict 0 10 61 ! IllegalArgumentException
            release -1 ! IllegalArgumentException
            release 1 ! IllegalArgumentException
            train 2 10 1 ! IllegalArgumentException
            train 1 51 1 ! IllegalArgumentException
            train 1 10 3 ! IllegalArgumentException
            train 0 10 1 ! IllegalStateException
            start 1 ! IllegalArgumentException
            ask 1 0 ! IllegalArgumentException
            ask 0 2 ! IllegalArgumentException
            ask 0 -1 ! IllegalArgumentException
            stop 1 ! IllegalArgumentException
            take 1 0 ! IllegalArgumentException
            take 0 -1 ! IllegalArgumentException
            take 0 1024 ! IllegalArgumentException
            second 1 0 0 ! IllegalArgumentException
            second 0 1.125 0 ! IllegalArgumentException
            second 0 -2.125 0 ! IllegalArgumentException
            second 0 0 2 ! IllegalArgumentException
            second 0 0 -2 ! IllegalArgumentException
            wet 1 true ! IllegalArgumentException
            acknowledge 1 ! IllegalArgumentException
            end 1 ! IllegalArgumentException
            of 1 0 ! IllegalArgumentException
            of 0 6 ! IllegalArgumentException
            limit -0.125 ! IllegalArgumentException
            limit 200.125 ! IllegalArgumentException
            mode 1 ! IllegalArgumentException
            holds 2 0 ! IllegalArgumentException
            holds 0 2 ! IllegalArgumentException
            """;
    private static final String NO_MESSAGE = "take 0 0 ! NoSuchElementException; take 0 7 ! NoSuchElementException;";
    private static final String NO_RESTRICT = "restrict 0 10 5 ! UnsupportedOperationException;";
    private static final String NO_START = "start 0 ! IllegalStateException;";
    private static final String NO_ACKNOWLEDGE = "acknowledge 0 ! IllegalStateException;";
    private static final String NO_END = "end 0 ! IllegalStateException;";

    public static void main(String[] args) {
        argumentComesFirst();
        argumentComesFirstForTrains();
        messageComesSecond();
        stateComesThird();
        nothingIsChanged();
        nothingIsChangedOnTheWay();
        nothingButTheMessageIsChanged();
        Check.finish();
    }

    private static void argumentComesFirst() {
        Sentence.holds("IllegalArgumentException before IllegalStateException: section", """
                10 x section 50 60
                section 49.875 60 ! IllegalArgumentException
                section 50 60 ! IllegalStateException
                train 0 10 1
                section 50 60.125 ! IllegalArgumentException
                section 50 60 ! IllegalStateException
                """);
        Sentence.holds("IllegalArgumentException before the others: restrict", ONE + """
                restrict 0 10 5
                start 0
                restrict 10 10 5 ! IllegalArgumentException
                restrict 0 10 5 ! UnsupportedOperationException
                end 0
                4 x restrict 0 10 5
                restrict 0 10 0.875 ! IllegalArgumentException
                restrict 0 10 5 ! IllegalStateException
                start 0
                restrict 0 10000.125 5 ! IllegalArgumentException
                """);
        Sentence.holds("IllegalArgumentException before NoSuchElementException: take", ONE + """
                take 0 1024 ! IllegalArgumentException
                take 1 0 ! IllegalArgumentException
                take 0 1023 ! NoSuchElementException
                """);
        Sentence.holds("IllegalArgumentException before IllegalStateException: take", ONE + TRIP + """
                ask 0 0
                take 0 1024 ! IllegalArgumentException
                take 0 1023 ! IllegalStateException
                """);
        Sentence.holds("IllegalArgumentException before UnsupportedOperationException: take", ONE + """
                ask 0 0
                take 0 -1 ! IllegalArgumentException
                take 0 1023 ! UnsupportedOperationException
                """);
    }

    private static void argumentComesFirstForTrains() {
        Sentence.holds("IllegalArgumentException before IllegalStateException: train in a section that is another's",
                ONE + """
                train 0 9.875 1 ! IllegalArgumentException
                train 0 10 0.375 ! IllegalArgumentException
                train 0 10 1 ! IllegalStateException
                """);
        Sentence.holds("IllegalArgumentException before IllegalStateException: a fourth train", """
                4 x section 50 60; train 0 10 1; train 1 10 1; train 2 10 1
                train 4 10 1 ! IllegalArgumentException
                train 3 50.125 1 ! IllegalArgumentException
                train 3 10 2.125 ! IllegalArgumentException
                train 3 10 1 ! IllegalStateException
                """);
        Sentence.holds("IllegalArgumentException before IllegalStateException: ask before HEAD for another's", """
                3 x section 50 60; train 0 10 1; train 1 10 1
                ask 1 0 ! IllegalArgumentException
                ask 0 3 ! IllegalArgumentException
                ask 0 1 ! IllegalStateException
                """);
    }

    private static void messageComesSecond() {
        Sentence.holds("NoSuchElementException before IllegalStateException: take in TRIP", ONE + TRIP + """
                take 0 0 ! NoSuchElementException
                ask 0 0
                take 0 0 ! IllegalStateException
                """);
        Sentence.holds("NoSuchElementException before IllegalStateException: take in TRIP behind an AUTHORITY taken", """
                2 x section 50 60; train 0 48.875 1; wet 0 true; ask 0 0; take 0 0; start 0 = 2
                second 0 1 1 = 2; second 0 1 1 = 3
                take 0 0 ! NoSuchElementException
                take 0 1 ! NoSuchElementException
                """);
        Sentence.holds("NoSuchElementException before UnsupportedOperationException: take of none, altered", ONE + """
                take 0 1 ! NoSuchElementException
                count 3 = 0
                """);
    }

    private static void stateComesThird() {
        Sentence.holds("IllegalStateException before UnsupportedOperationException: a sixth RESTRICTION in STAFF",
                ONE + """
                4 x restrict 0 10 5
                start 0
                restrict 0 10 5 ! UnsupportedOperationException
                end 0
                restrict 0 10 5 = 5
                start 0
                restrict 0 10 5 ! IllegalStateException
                """);
        Sentence.holds("IllegalStateException before UnsupportedOperationException: a forged AUTHORITY in TRIP",
                ONE + TRIP + """
                ask 0 0
                take 0 1 ! IllegalStateException
                count 3 = 0
                """);
        Sentence.holds("IllegalStateException before UnsupportedOperationException: one not SAFE in TRIP", ONE + """
                start 0; 3 x second 0 1 0
                ask 0 0; take 0 0 ! UnsupportedOperationException
                stop 0; take 0 0 = 0
                ask 0 0; take 0 0 ! IllegalStateException
                """);
    }

    private static void nothingIsChanged() {
        String begin = "2 x section 100 60; restrict 150 160 5; train 0 50 1; wet 0 true;";
        Sentence.holds("a call that ends with one changes nothing, in STANDBY",
                begin + REFUSED + NO_MESSAGE + NO_ACKNOWLEDGE);
        Sentence.holds("a call that ends with one changes nothing, in STANDBY with an AUTHORITY",
                begin + "ask 0 1; take 0 0 = 1;" + REFUSED + NO_MESSAGE + NO_ACKNOWLEDGE);
        Sentence.holds("a call that ends with one changes nothing, in STAFF",
                begin + "start 0 = 1;" + REFUSED + NO_MESSAGE + NO_RESTRICT + NO_START + NO_ACKNOWLEDGE);
        Sentence.holds("a call that ends with one changes nothing, in FULL",
                begin + "ask 0 1; take 0 0; start 0 = 2;" + REFUSED + NO_MESSAGE + NO_RESTRICT + NO_START + NO_ACKNOWLEDGE);
        Sentence.holds("a call that ends with one changes nothing, in TRIP",
                begin + TRIP + REFUSED + NO_MESSAGE + NO_RESTRICT + NO_START + NO_END);
        Sentence.holds("a call that ends with one changes nothing, in POST",
                begin + TRIP + "acknowledge 0 = 4;" + REFUSED + NO_MESSAGE + NO_RESTRICT + NO_START);
    }

    /** With a message that waits, too. */
    private static void nothingIsChangedOnTheWay() {
        String begin = "2 x section 100 60; restrict 150 160 5; train 0 50 1;";
        String onTheWay = REFUSED + NO_RESTRICT + NO_START + NO_ACKNOWLEDGE + NO_END;
        Sentence.holds("a call that ends with one changes nothing, in STAFF on the way",
                begin + "start 0; 3 x second 0 1 1; stop 0 = 1;" + onTheWay);
        Sentence.holds("a call that ends with one changes nothing, in FULL on the way",
                begin + "ask 0 1; take 0 0; start 0 = 2; wet 0 true; 5 x second 0 1 -1; ask 0 0 = 2;" + onTheWay);
        Sentence.holds("a call that ends with one changes nothing, in TRIP on the way",
                begin + "start 0; 5 x second 0 1 -1; stop 0; take 0 0; ask 0 1 = 2;" + onTheWay
                + "take 0 0 ! IllegalStateException; take 0 1 ! IllegalStateException");
    }

    private static void nothingButTheMessageIsChanged() {
        String drive = """
                2 x section 50 60; train 0 30 0.5; ask 0 1; take 0 0; start 0 = 2
                4 x second 0 1 1
                """;
        String same = """
                mode 0 = 2; of 0 0 = 39; of 0 1 = 38; of 0 2 = 1; of 0 3 = 4; of 0 4 = 100
                holds 0 0 = 0; holds 1 0 = 0; holds 0 1 = 0; holds 1 1 = -1
                count 0 = 2; count 1 = 0; count 2 = 1; count 4 = 0; count 5 = 0
                take 0 0 ! NoSuchElementException
                """;
        Sentence.holds("but for take as said: a forged AUTHORITY", drive
                + "ask 0 1 = 2; take 0 512 ! UnsupportedOperationException; count 3 = 1;" + same + "stop 0 = 3");
        Sentence.holds("but for take as said: a forged STOP", drive
                + "stop 0 = 2; take 0 512 ! UnsupportedOperationException; count 3 = 1;" + same + "stop 0 = 3");
        Sentence.holds("but for take as said: an AUTHORITY that is not SAFE", drive
                + "ask 0 0 = 2; take 0 0 ! UnsupportedOperationException; count 3 = 0;" + same + "stop 0 = 3");
    }
}
