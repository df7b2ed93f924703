/** The edges of promise 9: floats. */
public final class Promise09EdgeTest {
    public static void main(String[] args) {
        Due due = new Due("promise 9, edges");
        whetherItFloated(due);
        eachTime(due);
        notLate(due);
        notByOtherCalls(due);
        noSuchCopy(due);
        due.end();
    }

    private static void whetherItFloated(Due due) {
        Run.of(due, "whether it floated before", """
            copy 0 18 1 0 -> 1; copy 0 26 1 0 -> 2
            floats 1 false -> false; floats 1 true -> false; floats 1 true -> true
            floats 1 false -> true; floats 1 false -> false
            floats 2 true -> false; floats 1 false -> false; floats 2 true -> true
            act 2 0 0 1 -> 0; floats 2 true -> true
            weed 2 0 -> 1; weed 2 1 -> 2; floats 2 false -> true; floats 2 true -> false
            """);
    }

    private static void eachTime(Due due) {
        Run.of(due, "each time that act 0, not LATE, is done on it", """
            copy 0 18 1 0 -> 1; floats 1 true -> false
            act 1 2 4 1 -> 2; home 1 -> 0; act 1 0 0 1 -> 0; home 1 -> 4
            act 1 2 9 2 -> 2; home 1 -> 4; act 1 0 0 2 -> 0; home 1 -> 9
            floats 1 false -> true; home 1 -> 9
            act 1 2 4 3 -> 2; act 1 0 0 3 -> 0; home 1 -> 9; place 1 -> 4
            floats 1 true -> false; home 1 -> 9
            act 1 1 0 4 -> 1; home 1 -> 9; act 1 0 0 4 -> 0; home 1 -> 4
            """);
        String[] acts = {"1", "3", "4", "5", "6"};
        for (String kind : acts) {
            String rows = """
                copy 0 18 1 0 -> 1
                act 1 2 4 1 -> 2; act 1 0 0 1 -> 0; home 1 -> 0
                act 1 K 0 2 -> K; floats 1 true -> false; home 1 -> 0
                act 1 0 0 3 -> 0; home 1 -> 4
                """;
            Run.of(due, "each time, of state " + kind + " too", rows.replace("K", kind));
        }
    }

    private static void notLate(Due due) {
        Run.of(due, "act 0, not LATE", """
            copy 0 18 1 0 -> 1; copy 0 26 1 0 -> 2
            act 1 2 4 1 -> 2; act 1 0 0 1 -> 0; act 1 1 0 2 -> 1; act 2 0 0 20 -> 0
            floats 1 true -> false
            act 1 0 0 10 -> 0; home 1 -> 0
            act 1 0 0 20 -> 0; home 1 -> 4
            """);
        Run.of(due, "act 0, LATE, while IN TRANSIT", """
            copy 0 18 1 0 -> 1; copy 0 26 1 0 -> 2; floats 1 true -> false
            act 1 2 4 1 -> 2; act 2 0 0 20 -> 0
            act 1 0 0 10 -> 0; home 1 -> 0; place 1 -> 4
            act 1 0 0 20 -> 0; home 1 -> 4
            """);
    }

    private static void notByOtherCalls(Due due) {
        Run.of(due, "is done on it: not by a refused one, another act, another copy's, or weed", """
            copy 0 18 1 0 -> 1; copy 0 26 1 0 -> 2; floats 1 true -> false
            act 1 2 4 1 -> 2; right 4 0 false -> true
            act 1 0 0 2 -> RIGHT; home 1 -> 0
            act 2 0 0 2 -> 0; home 1 -> 0
            act 1 6 0 3 -> 6; home 1 -> 0
            act 1 3 0 4 -> 3; home 1 -> 0
            act 1 5 0 5 -> 5; home 1 -> 0
            act 1 6 0 6 -> 6; weed 1 0 -> 1; weed 1 1 -> 2; home 1 -> 0
            act 1 0 0 9 -> STATE; home 1 -> 0
            """);
    }

    private static void noSuchCopy(Due due) {
        Run.of(due, "false if there is no such copy", """
            floats 1 true -> false; floats 1 true -> false
            copy 0 18 1 0 -> 1; copy 0 26 1 0 -> 2
            floats -1 true -> false; floats -1 true -> false; floats 0 true -> false; floats 0 true -> false
            floats 3 true -> false; floats 3 true -> false; floats 81 true -> false; floats 81 true -> false
            floats LEAST true -> false; floats MOST true -> false
            floats 1 true -> false; floats 2 true -> false; floats 2 true -> true
            copy 0 34 1 0 -> 3; floats 3 true -> false
            """);
    }
}
