/** The edges of promise 12: owed. */
public final class Promise12EdgeTest {
    public static void main(String[] args) {
        Due due = new Due("promise 12, edges");
        moreThanOnce(due);
        withoutLosses(due);
        greatest(due);
        noSuchCopy(due);
        due.end();
    }

    private static void moreThanOnce(Due due) {
        Run.of(due, "What a copy's losses come to in cents", """
            copy 0 18 1 0 -> 1; copy 0 26 1 0 -> 2; copy 1 34 1 0 -> 3; fee 0 70 -> 0; fee 1 5 -> 0
            act 1 0 0 1 -> 0; act 1 1 0 1 -> 1; act 1 6 0 1 -> 6; owed 1 -> 70; owed 2 -> 0; owed 3 -> 0
            act 1 0 0 2 -> 0; act 1 1 0 2 -> 1; act 1 6 0 2 -> 6; owed 1 -> 140
            fee 0 1 -> 70; owed 1 -> 140
            act 1 3 0 3 -> 3; act 1 0 0 3 -> 0; act 1 1 0 3 -> 1; act 1 6 0 3 -> 6; owed 1 -> 141
            act 3 0 0 3 -> 0; act 3 1 0 3 -> 1; act 3 6 0 3 -> 6; owed 3 -> 5; owed 1 -> 141; owed 2 -> 0
            """);
    }

    private static void withoutLosses(Due due) {
        Run.of(due, "0 without losses", """
            copy 0 18 1 0 -> 1; owed 1 -> 0; fee 0 70 -> 0; owed 1 -> 0
            act 1 6 0 1 -> 6; owed 1 -> 0; act 1 0 0 1 -> 0; act 1 6 0 1 -> 6; owed 1 -> 0
            act 1 0 0 2 -> 0; act 1 1 0 2 -> 1; owed 1 -> 0; act 1 0 0 3 -> 0; owed 1 -> 0
            act 1 1 0 3 -> 1; act 1 1 0 3 -> STATE; act 1 6 0 -1 -> NONE; owed 1 -> 0
            act 1 6 0 3 -> 6; owed 1 -> 70; act 1 6 0 3 -> STATE; owed 1 -> 70
            """);
    }

    private static void greatest(Due due) {
        ItemStates x = House.with(1);
        x.fee(0, 1000000);
        int losses = 169;
        for (int i = 0; i < losses; i++) {
            x.act(1, 0, 0, i);
            x.act(1, 1, 0, i);
            x.act(1, 6, 0, i);
        }
        due.is("owed after as many losses as 512 calls hold", x.owed(1), losses * 1000000L);
    }

    private static void noSuchCopy(Due due) {
        Run.of(due, "NONE if there is no such copy", """
            owed 1 -> NONE
            copy 0 18 1 4 -> 1; copy 0 26 1 5 -> 2
            owed -1 -> NONE; owed 0 -> NONE; owed 1 -> 0; owed 2 -> 0; owed 3 -> NONE
            owed 80 -> NONE; owed 81 -> NONE; owed LEAST -> NONE; owed MOST -> NONE
            """);
    }
}
