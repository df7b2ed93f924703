/** The edges of promise 13: history. */
public final class Promise13EdgeTest {
    public static void main(String[] args) {
        Due due = new Due("promise 13, edges");
        indexes(due);
        whats(due);
        orderOfDays(due);
        ofOneDay(due);
        late(due);
        whatIsNotEntered(due);
        noSuchCopy(due);
        due.end();
    }

    private static void indexes(Due due) {
        Run.of(due, "Of the i-th act .. from 0 on; NONE if there is none such", """
            copy 0 18 1 0 -> 1; copy 0 26 1 0 -> 2
            history 1 -1 0 -> NONE; history 1 0 0 -> NONE; history 1 1 0 -> NONE
            act 1 5 0 1 -> 5
            history 1 -1 0 -> NONE; history 1 0 0 -> 5; history 1 1 0 -> NONE
            act 1 6 0 2 -> 6
            history 1 -1 1 -> NONE; history 1 0 1 -> 0; history 1 1 1 -> 0; history 1 2 1 -> NONE
            history 1 1 0 -> 6; history 1 2 0 -> NONE; history 1 LEAST 0 -> NONE; history 1 MOST 0 -> NONE
            history 1 LEAST 1 -> NONE; history 1 MOST 1 -> NONE
            history 2 0 0 -> NONE
            """);
    }

    private static void whats(Due due) {
        Run.of(due, "what 0: its state, 1: 1 if it was LATE, else 0; NONE .. for another what", """
            copy 0 18 1 0 -> 1
            history 1 0 -1 -> NONE; history 1 0 0 -> NONE; history 1 0 1 -> NONE; history 1 0 2 -> NONE
            act 1 5 0 9 -> 5; act 1 6 0 3 -> 6
            history 1 0 -1 -> NONE; history 1 0 0 -> 6; history 1 0 1 -> 1; history 1 0 2 -> NONE
            history 1 1 -1 -> NONE; history 1 1 0 -> 5; history 1 1 1 -> 0; history 1 1 2 -> NONE
            history 1 0 LEAST -> NONE; history 1 0 MOST -> NONE
            """);
    }

    private static void orderOfDays(Due due) {
        Run.of(due, "in the order of days, LATE acts between", """
            copy 0 18 1 0 -> 1
            act 1 0 0 10 -> 0; act 1 1 0 20 -> 1; act 1 6 0 30 -> 6
            act 1 4 0 15 -> 4
            history 1 0 0 -> 0; history 1 1 0 -> 4; history 1 2 0 -> 1; history 1 3 0 -> 6; history 1 4 0 -> NONE
            history 1 0 1 -> 0; history 1 1 1 -> 1; history 1 2 1 -> 0; history 1 3 1 -> 0; history 1 4 1 -> NONE
            act 1 5 0 0 -> 5
            history 1 0 0 -> 5; history 1 1 0 -> 0; history 1 2 0 -> 4; history 1 3 0 -> 1; history 1 4 0 -> 6
            history 1 0 1 -> 1; history 1 1 1 -> 0; history 1 2 1 -> 1; history 1 5 0 -> NONE
            act 1 0 0 29 -> 0
            history 1 3 0 -> 1; history 1 4 0 -> 0; history 1 4 1 -> 1; history 1 5 0 -> 6; history 1 5 1 -> 0
            """);
    }

    private static void ofOneDay(Due due) {
        Run.of(due, "those of one day as they were entered", """
            copy 0 18 1 0 -> 1
            act 1 0 0 10 -> 0; act 1 4 0 10 -> 4; act 1 1 0 10 -> 1; act 1 6 0 20 -> 6; act 1 0 0 20 -> 0
            act 1 6 0 10 -> 6; act 1 3 0 10 -> 3
            history 1 0 0 -> 0; history 1 1 0 -> 4; history 1 2 0 -> 1; history 1 3 0 -> 6; history 1 4 0 -> 3
            history 1 5 0 -> 6; history 1 6 0 -> 0; history 1 7 0 -> NONE
            history 1 2 1 -> 0; history 1 3 1 -> 1; history 1 4 1 -> 1; history 1 5 1 -> 0
            """);
    }

    private static void late(Due due) {
        Run.of(due, "1 if it was LATE: when it was entered, whatever came later", """
            copy 0 18 1 0 -> 1; copy 0 26 1 0 -> 2
            act 1 0 0 10 -> 0; act 2 0 0 90 -> 0
            history 1 0 1 -> 0; history 2 0 1 -> 0
            act 1 1 0 89 -> 1; history 1 1 1 -> 1
            act 1 1 0 90 -> 1; history 1 2 1 -> 0
            weed 2 0 -> 1; weed 2 1 -> 2; history 2 1 0 -> 7; history 2 1 1 -> 0; history 1 2 1 -> 0
            """);
    }

    private static void whatIsNotEntered(Due due) {
        Run.of(due, "act entered: none by a refused act, one who wants it, or another call", """
            copy 0 18 1 0 -> 1; copy 0 26 1 0 -> 2; right 5 0 false -> true
            act 1 1 0 1 -> STATE; act 1 2 5 1 -> RIGHT; act 1 2 0 1 -> NONE; act 1 9 0 1 -> NONE
            weed 1 0 -> 1; weed 1 0 -> STATE; floats 1 true -> false; fee 0 1 -> 0; act 2 0 0 1 -> 0
            history 1 0 0 -> NONE; history 1 0 1 -> NONE
            """);
    }

    private static void noSuchCopy(Due due) {
        Run.of(due, "NONE if there is none such, of copies", """
            history 1 0 0 -> NONE; history 1 0 1 -> NONE
            copy 0 18 1 4 -> 1; copy 0 26 1 5 -> 2; act 1 0 0 1 -> 0; act 2 0 0 1 -> 0
            history -1 0 0 -> NONE; history 0 0 0 -> NONE; history 1 0 0 -> 0; history 2 0 0 -> 0
            history 3 0 0 -> NONE; history 80 0 0 -> NONE; history 81 0 0 -> NONE
            history LEAST 0 0 -> NONE; history MOST 0 0 -> NONE; history 0 -1 2 -> NONE
            """);
    }
}
