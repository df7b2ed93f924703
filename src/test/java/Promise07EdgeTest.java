/** The edges of promise 7: state. */
public final class Promise07EdgeTest {
    public static void main(String[] args) {
        Due due = new Due("promise 7, edges");
        beforeTheFirst(due);
        upToThatDay(due);
        ofOneDay(due);
        lateOnes(due);
        dayBelow0(due);
        noSuchCopy(due);
        due.end();
    }

    private static void beforeTheFirst(Due due) {
        Run.of(due, "3 before the first one", """
            copy 0 18 1 0 -> 1
            state 1 0 -> 3; state 1 10 -> 3; state 1 MOST -> 3
            act 1 0 0 10 -> 0
            state 1 0 -> 3; state 1 9 -> 3; state 1 10 -> 0
            """);
        Run.of(due, "3 before the first one, that is of day 0", """
            copy 0 18 1 0 -> 1
            act 1 0 0 0 -> 0
            state 1 -1 -> 3; state 1 0 -> 0; state 1 1 -> 0
            """);
        Run.of(due, "3 before the first one, though it is WITHDRAWN", """
            copy 0 18 1 0 -> 1
            weed 1 0 -> 1; weed 1 1 -> 2
            state 1 0 -> 3; state 1 1 -> 7
            """);
    }

    private static void upToThatDay(Due due) {
        Run.of(due, "by the acts of all that were entered up to that day", """
            copy 0 18 1 0 -> 1; copy 0 26 1 0 -> 2
            act 1 0 0 10 -> 0; act 1 1 0 20 -> 1; act 2 5 0 25 -> 5; act 1 6 0 30 -> 6
            state 1 9 -> 3; state 1 10 -> 0; state 1 11 -> 0; state 1 19 -> 0
            state 1 20 -> 1; state 1 21 -> 1; state 1 25 -> 1; state 1 29 -> 1
            state 1 30 -> 6; state 1 31 -> 6; state 1 1000000000000 -> 6; state 1 1000000000001 -> 6
            state 1 MOST -> 6
            state 2 24 -> 3; state 2 25 -> 5; state 2 30 -> 5
            """);
    }

    private static void ofOneDay(Due due) {
        Run.of(due, "those of one day as they were entered", """
            copy 0 18 1 0 -> 1
            act 1 0 0 10 -> 0; state 1 10 -> 0
            act 1 4 0 10 -> 4; state 1 10 -> 4
            act 1 1 0 10 -> 1; state 1 10 -> 1; state 1 9 -> 3; state 1 11 -> 1
            act 1 0 0 20 -> 0; state 1 20 -> 0
            act 1 6 0 10 -> 6; state 1 10 -> 6; state 1 19 -> 6; state 1 20 -> 0
            act 1 3 0 10 -> 3; state 1 10 -> 3; state 1 20 -> 0
            """);
    }

    private static void lateOnes(Due due) {
        Run.of(due, "by days, a LATE one among them", """
            copy 0 18 1 0 -> 1
            act 1 0 0 10 -> 0; act 1 1 0 30 -> 1
            act 1 5 0 20 -> 5
            state 1 19 -> 0; state 1 20 -> 5; state 1 29 -> 5; state 1 30 -> 1
            act 1 2 3 0 -> 2
            state 1 -1 -> 3; state 1 0 -> 2; state 1 9 -> 2; state 1 10 -> 0
            """);
        Run.of(due, "by days, a LATE one behind all of its copy", """
            copy 0 18 1 0 -> 1; copy 0 26 1 0 -> 2
            act 1 0 0 10 -> 0; act 2 0 0 30 -> 0
            act 1 4 0 20 -> 4
            state 1 19 -> 0; state 1 20 -> 4; state 1 30 -> 4; state 1 MOST -> 4
            count 0 NONE -> 2
            act 1 1 0 30 -> 1; state 1 29 -> 4; state 1 30 -> 1
            """);
    }

    private static void dayBelow0(Due due) {
        Run.of(due, "a day below 0 is before the first one", """
            copy 0 18 1 0 -> 1
            state 1 -1 -> 3; state 1 LEAST -> 3
            act 1 0 0 0 -> 0
            state 1 -1 -> 3; state 1 LEAST -> 3
            """);
    }

    private static void noSuchCopy(Due due) {
        Run.of(due, "NONE if there is no such copy", """
            state 1 0 -> NONE
            copy 0 18 1 0 -> 1; copy 0 26 1 0 -> 2
            state -1 0 -> NONE; state 0 0 -> NONE; state 2 0 -> 3; state 3 0 -> NONE
            state 0 -1 -> NONE; state 3 LEAST -> NONE; state 80 0 -> NONE; state 81 0 -> NONE
            state LEAST 0 -> NONE; state MOST 0 -> NONE
            """);
    }
}
