/** The edges of promise 14: count. */
public final class Promise14EdgeTest {
    public static void main(String[] args) {
        Due due = new Due("promise 14, edges");
        eachState(due);
        anyHome(due);
        noSuchState(due);
        noSuchHome(due);
        now(due);
        byHome(due);
        eightyCopies(due);
        due.end();
    }

    private static void eachState(Due due) {
        for (int state = 0; state <= 7; state++) {
            ItemStates x = House.inState(state, 5);
            for (int other = 0; other <= 7; other++) {
                int want = other == state ? 1 : 0;
                due.is("in state " + state + ": count " + other + " NONE", x.count(other, -1), want);
                due.is("in state " + state + ": count " + other + " 0", x.count(other, 0), want);
                due.is("in state " + state + ": count " + other + " 1", x.count(other, 1), 0);
            }
        }
    }

    private static void anyHome(Due due) {
        Run.of(due, "whose home is a place (NONE: any)", """
            copy 0 18 1 0 -> 1; copy 0 26 1 9 -> 2; copy 0 34 1 9 -> 3
            count 3 NONE -> 3; count 3 0 -> 1; count 3 9 -> 2; count 3 1 -> 0; count 3 8 -> 0
            act 2 0 0 1 -> 0
            count 3 NONE -> 2; count 3 9 -> 1; count 0 NONE -> 1; count 0 9 -> 1; count 0 0 -> 0
            """);
    }

    private static void noSuchState(Due due) {
        Run.of(due, "0 if there is none such: a state", """
            copy 0 18 1 0 -> 1
            count -1 NONE -> 0; count 8 NONE -> 0; count LEAST NONE -> 0; count MOST NONE -> 0
            count -1 0 -> 0; count 8 0 -> 0; count -2 NONE -> 0; count -3 NONE -> 0
            count 3 NONE -> 1
            """);
    }

    private static void noSuchHome(Due due) {
        Run.of(due, "0 if there is none such: a home", """
            copy 0 18 1 0 -> 1; copy 0 26 1 9 -> 2
            count 3 -2 -> 0; count 3 -3 -> 0; count 3 10 -> 0; count 3 LEAST -> 0; count 3 MOST -> 0
            count 8 10 -> 0; count -1 -2 -> 0
            count 3 NONE -> 2
            """);
    }

    private static void now(Due due) {
        Run.of(due, "in a state now: not by a LATE act", """
            copy 0 18 1 0 -> 1; copy 0 26 1 0 -> 2
            act 1 0 0 1 -> 0; act 2 0 0 9 -> 0
            act 1 1 0 5 -> 1; state 1 9 -> 1; count 1 NONE -> 0; count 0 NONE -> 2; count 0 0 -> 2
            act 1 1 0 9 -> 1; count 1 NONE -> 1; count 0 NONE -> 1
            act 1 0 0 5 -> 0; count 1 NONE -> 1
            weed 2 0 -> 1; count 7 NONE -> 0; weed 2 1 -> 2; count 7 NONE -> 1; count 0 NONE -> 0
            """);
    }

    private static void byHome(Due due) {
        Run.of(due, "whose home is a place: not where it stands", """
            copy 0 18 1 3 -> 1; copy 0 26 1 3 -> 2; floats 2 true -> false
            act 1 2 4 1 -> 2; act 2 2 4 1 -> 2; count 2 3 -> 2; count 2 4 -> 0
            act 1 0 0 1 -> 0; act 2 0 0 1 -> 0; count 0 3 -> 1; count 0 4 -> 1; count 0 NONE -> 2
            """);
    }

    private static void eightyCopies(Due due) {
        ItemStates x = House.with(80);
        due.is("of 80: all", x.count(3, -1), 80);
        due.is("of 80: at home 0", x.count(3, 0), 80);
        x.act(1, 0, 0, 1);
        x.act(80, 0, 0, 1);
        due.is("of 80: the first and the last on shelf", x.count(0, -1), 2);
        due.is("of 80: the others", x.count(3, 0), 78);
    }
}
