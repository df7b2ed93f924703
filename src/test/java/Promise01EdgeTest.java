/** The edges of promise 1: every method on an object without copies and without acts. */
public final class Promise01EdgeTest {
    public static void main(String[] args) {
        Due due = new Due("promise 1, edges");
        noCopies(due);
        noActs(due);
        notShared(due);
        due.end();
    }

    private static void noCopies(Due due) {
        Run.of(due, "No copies", """
            act 1 0 0 0 -> NONE; act 1 2 1 0 -> NONE; act 0 0 0 0 -> NONE; act -1 0 0 0 -> NONE
            state 1 0 -> NONE; state 0 0 -> NONE; state -1 0 -> NONE
            place 1 -> NONE; place 0 -> NONE; place -1 -> NONE
            floats 1 true -> false; floats 1 true -> false; floats 0 true -> false; floats 0 true -> false
            home 1 -> NONE; home 0 -> NONE; home -1 -> NONE
            weed 1 0 -> NONE; weed 1 1 -> NONE; weed 0 0 -> NONE
            owed 1 -> NONE; owed 0 -> NONE; owed -1 -> NONE
            history 1 0 0 -> NONE; history 1 0 1 -> NONE; history 0 0 0 -> NONE; history 0 -1 0 -> NONE
            count 0 NONE -> 0; count 1 NONE -> 0; count 2 NONE -> 0; count 3 NONE -> 0
            count 4 NONE -> 0; count 5 NONE -> 0; count 6 NONE -> 0; count 7 NONE -> 0
            count 3 0 -> 0; count 3 9 -> 0; count 8 NONE -> 0; count -1 NONE -> 0; count -1 -1 -> 0
            """);
        Run.of(due, "No copies: what does not need one", """
            check 1 1 -> 8
            fee 0 0 -> 0; fee 5 0 -> 0
            right 0 0 true -> true; right 9 5 true -> true
            copy 0 18 1 0 -> 1
            """);
    }

    private static void noActs(Due due) {
        Run.of(due, "no acts: none is LATE yet", """
            copy 0 18 1 0 -> 1
            history 1 0 0 -> NONE; history 1 0 1 -> NONE
            act 1 0 0 0 -> 0; history 1 0 1 -> 0; history 1 1 0 -> NONE
            """);
        Run.of(due, "no acts: what calls on no copy did is none", """
            act 1 0 0 99 -> NONE; weed 1 0 -> NONE; floats 1 true -> false
            copy 0 18 1 0 -> 1
            floats 1 false -> false
            weed 1 0 -> 1
            act 1 0 0 5 -> 0; history 1 0 1 -> 0
            """);
    }

    private static void notShared(Due due) {
        ItemStates first = new ItemStates();
        first.copy(0, 18, 1, 0);
        first.right(0, 1, false);
        first.fee(1, 5);
        first.floats(1, true);
        first.weed(1, 0);
        first.act(1, 0, 0, 50);
        Run.of(due, "A new object, beside another one", """
            place 1 -> NONE; count 0 NONE -> 0
            copy 1 18 1 0 -> 1
            fee 1 0 -> 0; right 0 1 true -> true; floats 1 false -> false; weed 1 0 -> 1
            act 1 0 0 1 -> 0; history 1 0 1 -> 0
            """);
    }
}
