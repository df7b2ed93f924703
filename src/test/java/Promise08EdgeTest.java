/** The edges of promise 8: place. */
public final class Promise08EdgeTest {
    public static void main(String[] args) {
        Due due = new Due("promise 8, edges");
        whereItStands(due);
        toWhereItGoes(due);
        lateSends(due);
        floating(due);
        noSuchCopy(due);
        due.end();
    }

    private static void whereItStands(Due due) {
        Run.of(due, "Where a copy stands now", """
            copy 0 18 1 0 -> 1; copy 0 26 1 9 -> 2
            place 1 -> 0; place 2 -> 9
            act 1 0 5 1 -> 0; place 1 -> 0
            act 2 5 5 1 -> 5; place 2 -> 9
            weed 1 0 -> 1; weed 1 1 -> 2; place 1 -> 0
            """);
    }

    private static void toWhereItGoes(Due due) {
        Run.of(due, "of IN TRANSIT: to where it goes", """
            copy 0 18 1 0 -> 1; copy 0 26 1 0 -> 2
            act 1 2 9 1 -> 2; place 1 -> 9; place 2 -> 0
            act 1 2 5 2 -> STATE; place 1 -> 9
            act 1 0 0 3 -> 0; place 1 -> 9
            act 1 2 10 4 -> NONE; place 1 -> 9
            right 5 0 false -> true
            act 1 2 5 4 -> RIGHT; place 1 -> 9
            act 1 2 0 4 -> 2; place 1 -> 0
            right 0 0 false -> true
            act 1 0 0 5 -> RIGHT; place 1 -> 0
            """);
    }

    private static void lateSends(Due due) {
        Run.of(due, "now: a LATE send does not move it", """
            copy 0 18 1 0 -> 1
            act 1 0 0 10 -> 0
            act 1 2 7 5 -> 2; place 1 -> 0
            act 1 0 0 6 -> 0; place 1 -> 0
            act 1 2 7 10 -> 2; place 1 -> 7
            act 1 6 0 6 -> 6; place 1 -> 7
            """);
    }

    private static void floating(Due due) {
        Run.of(due, "Where a copy stands now, whether it floats or not", """
            copy 0 18 1 0 -> 1; copy 0 26 1 0 -> 2
            floats 1 true -> false; place 1 -> 0
            act 1 2 7 1 -> 2; act 2 2 7 1 -> 2; place 1 -> 7; place 2 -> 7
            act 1 0 0 2 -> 0; act 2 0 0 2 -> 0; place 1 -> 7; place 2 -> 7
            floats 1 false -> true; place 1 -> 7
            act 1 1 0 3 -> 1; act 2 1 0 3 -> 1; act 1 0 0 3 -> 0; act 2 0 0 3 -> 0; place 1 -> 7; place 2 -> 7
            """);
    }

    private static void noSuchCopy(Due due) {
        Run.of(due, "NONE if there is no such copy", """
            place 1 -> NONE
            copy 0 18 1 4 -> 1; copy 0 26 1 5 -> 2
            place -1 -> NONE; place 0 -> NONE; place 1 -> 4; place 2 -> 5; place 3 -> NONE
            place 80 -> NONE; place 81 -> NONE; place LEAST -> NONE; place MOST -> NONE
            """);
    }
}
