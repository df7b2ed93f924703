/** The edges of promise 10: home. */
public final class Promise10EdgeTest {
    public static void main(String[] args) {
        Due due = new Due("promise 10, edges");
        firstAndLastPlace(due);
        floatsOrNot(due);
        homeWithoutRight(due);
        noSuchCopy(due);
        due.end();
    }

    private static void firstAndLastPlace(Due due) {
        Run.of(due, "A copy's home", """
            copy 0 18 1 0 -> 1; copy 0 26 1 9 -> 2; home 1 -> 0; home 2 -> 9
            floats 1 true -> false; floats 2 true -> false
            act 1 2 9 1 -> 2; act 2 2 0 1 -> 2; home 1 -> 0; home 2 -> 9
            act 1 0 0 1 -> 0; act 2 0 0 1 -> 0; home 1 -> 9; home 2 -> 0
            """);
    }

    private static void floatsOrNot(Due due) {
        Run.of(due, "the home of a copy that floats and of one that does not, LATE and not LATE", """
            copy 0 18 1 0 -> 1; copy 0 26 1 0 -> 2; copy 0 34 1 0 -> 3
            floats 1 true -> false
            act 1 2 4 1 -> 2; act 2 2 4 1 -> 2; act 3 0 0 20 -> 0
            act 1 0 0 10 -> 0; act 2 0 0 10 -> 0; home 1 -> 0; home 2 -> 0
            act 1 0 0 20 -> 0; act 2 0 0 20 -> 0; home 1 -> 4; home 2 -> 0
            weed 1 0 -> 1; weed 1 1 -> 2; home 1 -> 4
            """);
    }

    private static void homeWithoutRight(Due due) {
        Run.of(due, "home, when its right is gone", """
            copy 0 18 1 3 -> 1; right 3 0 false -> true; home 1 -> 3
            floats 1 true -> false
            act 1 0 0 1 -> 0; home 1 -> 3
            act 1 2 5 2 -> 2; act 1 0 0 2 -> 0; home 1 -> 5
            right 5 0 false -> true
            act 1 1 0 3 -> 1; act 1 0 0 3 -> 0; home 1 -> 5
            """);
    }

    private static void noSuchCopy(Due due) {
        Run.of(due, "NONE if there is no such copy", """
            home 1 -> NONE
            copy 0 18 1 4 -> 1; copy 0 26 1 5 -> 2
            home -1 -> NONE; home 0 -> NONE; home 1 -> 4; home 2 -> 5; home 3 -> NONE
            home 80 -> NONE; home 81 -> NONE; home LEAST -> NONE; home MOST -> NONE
            """);
    }
}
