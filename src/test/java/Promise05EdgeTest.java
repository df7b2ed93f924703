/** The edges of promise 5: fee. */
public final class Promise05EdgeTest {
    public static void main(String[] args) {
        Due due = new Due("promise 5, edges");
        sums(due);
        otherSums(due);
        noSuchType(due);
        eachTypeItsOwn(due);
        due.end();
    }

    private static void sums(Due due) {
        Run.of(due, "A type's FEE, 0 .. 1000000 cents: the one before", """
            fee 0 0 -> 0; fee 0 1 -> 0; fee 0 999999 -> 1; fee 0 1000000 -> 999999
            fee 0 1000000 -> 1000000; fee 0 0 -> 1000000; fee 0 0 -> 0
            fee 5 1000000 -> 0; fee 5 0 -> 1000000
            """);
        Run.of(due, "the greatest FEE, lost", """
            copy 0 18 1 0 -> 1; fee 0 1000000 -> 0
            act 1 0 0 1 -> 0; act 1 1 0 1 -> 1; act 1 6 0 1 -> 6; owed 1 -> 1000000
            """);
    }

    private static void otherSums(Due due) {
        Run.of(due, "NONE, and it stays, .. for another sum", """
            fee 0 -1 -> NONE; fee 0 1000001 -> NONE; fee 0 0 -> 0
            fee 0 40 -> 0
            fee 0 -1 -> NONE; fee 0 40 -> 40
            fee 0 1000001 -> NONE; fee 0 40 -> 40
            fee 0 LEAST -> NONE; fee 0 40 -> 40
            fee 0 MOST -> NONE; fee 0 40 -> 40
            """);
        Run.of(due, "and it stays: for a loss too", """
            copy 0 18 1 0 -> 1; fee 0 40 -> 0; fee 0 -1 -> NONE; fee 0 1000001 -> NONE
            act 1 0 0 1 -> 0; act 1 1 0 1 -> 1; act 1 6 0 1 -> 6; owed 1 -> 40
            """);
    }

    private static void noSuchType(Due due) {
        Run.of(due, "NONE, and it stays, if there is none such", """
            fee 0 10 -> 0; fee 5 15 -> 0
            fee -1 1 -> NONE; fee 6 1 -> NONE; fee LEAST 1 -> NONE; fee MOST 1 -> NONE
            fee -1 0 -> NONE; fee 6 0 -> NONE; fee -1 -1 -> NONE; fee 6 1000001 -> NONE
            fee 0 10 -> 10; fee 5 15 -> 15
            """);
    }

    private static void eachTypeItsOwn(Due due) {
        Run.of(due, "each type its own", """
            fee 0 100 -> 0; fee 1 101 -> 0; fee 2 102 -> 0; fee 3 103 -> 0; fee 4 104 -> 0; fee 5 105 -> 0
            fee 0 0 -> 100; fee 1 0 -> 101; fee 2 0 -> 102; fee 3 0 -> 103; fee 4 0 -> 104; fee 5 0 -> 105
            """);
    }
}
