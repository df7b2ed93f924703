/** The edges of promise 6: act. */
public final class Promise06EdgeTest {
    public static void main(String[] args) {
        Due due = new Due("promise 6, edges");
        theStateByIt(due);
        placeDoesNotMatter(due);
        noSuchCopy(due);
        noSuchAct(due);
        days(due);
        sendToNoPlace(due);
        sendToWherePlaceTells(due);
        sendWithoutRight(due);
        arriveWithoutRight(due);
        arriveLateWithoutRight(due);
        rightsOfOtherActs(due);
        orderOfRefusals(due);
        wantedNoMore(due);
        wantedStill(due);
        due.end();
    }

    private static void theStateByIt(Due due) {
        Run.of(due, "the state that it is in by it (LATE: that was entered)", """
            copy 0 18 1 0 -> 1; copy 0 26 1 0 -> 2
            act 1 0 0 5 -> 0; act 1 1 0 5 -> 1; act 1 0 0 5 -> 0; act 1 2 1 5 -> 2; act 1 0 0 5 -> 0
            act 1 3 0 5 -> 3; act 1 0 0 5 -> 0; act 1 4 0 5 -> 4; act 1 0 0 5 -> 0; act 1 5 0 5 -> 5
            act 1 6 0 5 -> 6
            act 2 0 0 1 -> 0; act 2 1 0 1 -> 1; act 2 0 0 1 -> 0; act 2 2 1 1 -> 2; act 2 0 0 1 -> 0
            act 2 3 0 1 -> 3; act 2 0 0 1 -> 0; act 2 4 0 1 -> 4; act 2 0 0 1 -> 0; act 2 5 0 1 -> 5
            act 2 6 0 1 -> 6
            count 6 NONE -> 1; count 3 NONE -> 1
            """);
    }

    private static void placeDoesNotMatter(Due due) {
        String[] places = {"-1", "10", "0", "7", "LEAST", "MOST"};
        for (String place : places) {
            String rows = """
                copy 0 18 1 0 -> 1; right 7 0 false -> true
                act 1 0 P 1 -> 0; act 1 1 P 2 -> 1; act 1 0 P 3 -> 0; act 1 3 P 4 -> 3; act 1 5 P 5 -> 5
                act 1 0 P 6 -> 0; act 1 4 P 7 -> 4; act 1 6 P 8 -> 6; act 1 3 P 9 -> 3
                act 1 5 P 0 -> 5; act 1 6 P 0 -> 6; act 1 0 P 0 -> 0
                place 1 -> 0
                """;
            Run.of(due, "else the place does not matter", rows.replace("P", place));
        }
    }

    private static void noSuchCopy(Due due) {
        Run.of(due, "NONE if there is no such copy", """
            act 1 0 0 1 -> NONE
            copy 0 18 1 0 -> 1; copy 0 26 1 0 -> 2
            act 0 0 0 1 -> NONE; act -1 0 0 1 -> NONE; act 3 0 0 1 -> NONE; act 80 0 0 1 -> NONE
            act 81 0 0 1 -> NONE; act LEAST 0 0 1 -> NONE; act MOST 0 0 1 -> NONE
            act 0 2 5 1 -> NONE; act 3 2 5 1 -> NONE
            count 3 NONE -> 2
            act 2 0 0 1 -> 0; count 3 NONE -> 1
            """);
    }

    private static void noSuchAct(Due due) {
        Run.of(due, "no such .. act", """
            copy 0 18 1 0 -> 1
            act 1 -1 0 1 -> NONE; act 1 7 0 1 -> NONE; act 1 LEAST 0 1 -> NONE; act 1 MOST 0 1 -> NONE
            history 1 0 0 -> NONE
            act 1 0 0 1 -> 0; act 1 6 0 1 -> 6
            act 1 -1 0 0 -> NONE; act 1 7 0 0 -> NONE; history 1 2 0 -> NONE
            """);
    }

    private static void days(Due due) {
        Run.of(due, "the day is below 0", """
            copy 0 18 1 0 -> 1
            act 1 0 0 -1 -> NONE; act 1 0 0 LEAST -> NONE; history 1 0 0 -> NONE
            act 1 0 0 0 -> 0; state 1 0 -> 0; state 1 -1 -> 3
            act 1 1 0 -1 -> NONE; act 1 1 0 0 -> 1
            """);
        Run.of(due, "or above 1000000000000", """
            copy 0 18 1 0 -> 1; copy 0 26 1 0 -> 2
            act 1 0 0 1000000000001 -> NONE; act 1 0 0 MOST -> NONE; history 1 0 0 -> NONE
            act 1 0 0 1000000000000 -> 0; state 1 1000000000000 -> 0; state 1 999999999999 -> 3
            act 1 1 0 1000000000000 -> 1; history 1 1 1 -> 0
            act 1 0 0 1000000000001 -> NONE
            act 2 0 0 999999999999 -> 0; history 2 0 1 -> 1
            act 2 0 0 0 -> 0; history 2 0 1 -> 1; state 2 0 -> 0
            """);
        Run.of(due, "days beyond those of an int", """
            copy 0 18 1 0 -> 1
            act 1 0 0 2147483647 -> 0; act 1 1 0 4294967296 -> 1; act 1 0 0 4294967297 -> 0
            state 1 2147483646 -> 3; state 1 2147483648 -> 0; state 1 4294967296 -> 1; state 1 4294967297 -> 0
            act 1 6 0 4294967296 -> 6; history 1 2 0 -> 6; history 1 2 1 -> 1
            """);
    }

    private static void sendToNoPlace(Due due) {
        Run.of(due, "(of 2) no such place", """
            copy 0 18 1 0 -> 1
            act 1 2 -1 1 -> NONE; act 1 2 10 1 -> NONE; act 1 2 LEAST 1 -> NONE; act 1 2 MOST 1 -> NONE
            place 1 -> 0; history 1 0 0 -> NONE; count 3 NONE -> 1
            act 1 2 9 1 -> 2; place 1 -> 9; act 1 0 0 1 -> 0
            act 1 2 0 1 -> 2; place 1 -> 0
            """);
        Run.of(due, "(of 2) no such place, LATE", """
            copy 0 18 1 0 -> 1; act 1 0 0 9 -> 0
            act 1 2 -1 5 -> NONE; act 1 2 10 5 -> NONE; history 1 1 0 -> NONE
            act 1 2 9 5 -> 2; place 1 -> 0
            """);
    }

    private static void sendToWherePlaceTells(Due due) {
        Run.of(due, "(of 2) .. or the one that place() tells", """
            copy 0 18 1 3 -> 1
            act 1 2 3 1 -> NONE; place 1 -> 3
            act 1 2 4 1 -> 2; place 1 -> 4
            act 1 2 4 1 -> NONE; act 1 2 3 1 -> STATE
            act 1 0 0 2 -> 0; home 1 -> 3
            act 1 2 4 2 -> NONE; act 1 2 3 2 -> 2; place 1 -> 3
            """);
        Run.of(due, "(of 2) .. or the one that place() tells, LATE", """
            copy 0 18 1 3 -> 1
            act 1 2 4 9 -> 2
            act 1 2 4 5 -> NONE; history 1 1 0 -> NONE
            act 1 2 3 5 -> 2; state 1 5 -> 2; place 1 -> 4
            """);
    }

    private static void sendWithoutRight(Due due) {
        Run.of(due, "RIGHT if (of 2) that place has no right for its type", """
            copy 1 18 1 0 -> 1
            right 5 1 false -> true; right 6 2 false -> true; right 0 1 false -> true
            act 1 2 5 1 -> RIGHT; place 1 -> 0; count 3 NONE -> 1; history 1 0 0 -> NONE
            act 1 2 6 1 -> 2; act 1 0 0 1 -> 0
            act 1 2 0 1 -> RIGHT
            right 5 1 true -> false
            act 1 2 5 1 -> 2
            """);
        Run.of(due, "RIGHT if (of 2) that place has no right for its type, LATE", """
            copy 1 18 1 0 -> 1; act 1 0 0 9 -> 0
            right 5 1 false -> true
            act 1 2 5 4 -> RIGHT; history 1 1 0 -> NONE; state 1 4 -> 3
            act 1 2 6 4 -> 2
            """);
    }

    private static void arriveWithoutRight(Due due) {
        Run.of(due, "(of 0, IN TRANSIT now, not LATE) has none any more", """
            copy 1 18 1 0 -> 1; floats 1 true -> false
            act 1 2 5 1 -> 2
            right 5 1 false -> true
            act 1 0 0 2 -> RIGHT; act 1 0 5 2 -> RIGHT; act 1 0 0 1 -> RIGHT
            count 2 NONE -> 1; place 1 -> 5; home 1 -> 0; history 1 1 0 -> NONE
            right 0 1 false -> true; right 5 1 true -> false
            act 1 0 0 2 -> 0; home 1 -> 5; place 1 -> 5
            """);
        Run.of(due, "has none any more: the right of another type", """
            copy 1 18 1 0 -> 1
            act 1 2 5 1 -> 2
            right 5 0 false -> true; right 5 2 false -> true; right 4 1 false -> true; right 6 1 false -> true
            act 1 0 0 2 -> 0
            """);
    }

    private static void arriveLateWithoutRight(Due due) {
        Run.of(due, "LATE, of the day when it was IN TRANSIT, and it is so now", """
            copy 1 18 1 0 -> 1; copy 1 26 1 0 -> 2
            act 1 2 5 1 -> 2; act 2 0 0 20 -> 0
            right 5 1 false -> true
            act 1 0 0 10 -> 0; state 1 10 -> 0; history 1 1 1 -> 1
            count 2 NONE -> 1; place 1 -> 5
            act 1 0 0 20 -> RIGHT
            right 5 1 true -> false
            act 1 0 0 20 -> 0
            """);
        Run.of(due, "LATE, of the day when it was in another state, and IN TRANSIT now", """
            copy 1 18 1 0 -> 1
            act 1 0 0 1 -> 0; act 1 1 0 5 -> 1; act 1 0 0 9 -> 0; act 1 2 5 10 -> 2
            right 5 1 false -> true
            act 1 0 0 5 -> 0; state 1 5 -> 0
            act 1 0 0 10 -> RIGHT
            """);
        Run.of(due, "LATE, of the day when it was IN TRANSIT, in another state now", """
            copy 1 18 1 0 -> 1
            act 1 2 5 1 -> 2; act 1 0 0 10 -> 0
            right 5 1 false -> true
            act 1 0 0 5 -> 0; history 1 1 1 -> 1; count 0 NONE -> 1
            """);
    }

    private static void rightsOfOtherActs(Due due) {
        Run.of(due, "RIGHT: of no other act", """
            copy 1 18 1 0 -> 1
            right 0 1 false -> true
            act 1 0 0 1 -> 0; act 1 1 0 1 -> 1; act 1 0 0 1 -> 0; act 1 3 0 1 -> 3; act 1 0 0 1 -> 0
            act 1 4 0 1 -> 4; act 1 0 0 1 -> 0; act 1 5 0 1 -> 5; act 1 0 0 1 -> 0
            act 1 6 0 1 -> 6; act 1 0 0 1 -> 0
            act 1 2 4 2 -> 2
            right 4 1 false -> true
            act 1 6 0 3 -> 6; act 1 0 0 4 -> 0
            """);
        Run.of(due, "RIGHT: IN TRANSIT by a LATE act alone is not IN TRANSIT now", """
            copy 1 18 1 0 -> 1; copy 1 26 1 0 -> 2
            act 2 0 0 9 -> 0
            act 1 2 4 5 -> 2; count 2 NONE -> 0; place 1 -> 0
            right 4 1 false -> true; right 0 1 false -> true
            act 1 0 0 9 -> 0; place 1 -> 0
            """);
    }

    private static void orderOfRefusals(Due due) {
        Run.of(due, "NONE .. ; STATE as told; RIGHT: in this order", """
            copy 0 18 1 0 -> 1; right 3 0 false -> true
            act 1 0 0 1 -> 0; act 1 1 0 1 -> 1
            act 1 2 10 2 -> NONE; act 1 2 0 2 -> NONE; act 1 2 3 2 -> STATE
            act 1 1 0 -1 -> NONE; act 1 1 0 1000000000001 -> NONE; act 1 1 0 2 -> STATE
            act 1 0 0 2 -> 0
            right 0 0 false -> true
            act 1 2 0 3 -> NONE; act 1 2 3 3 -> RIGHT; act 1 2 3 -1 -> NONE
            act 2 2 3 3 -> NONE
            """);
        Run.of(due, "a refused act does nothing", """
            copy 0 18 1 0 -> 1; fee 0 9 -> 0
            act 1 1 0 5 -> STATE; act 1 3 0 5 -> STATE; act 1 4 0 5 -> STATE
            history 1 0 0 -> NONE; count 3 NONE -> 1; state 1 5 -> 3
            act 1 0 0 4 -> 0; history 1 0 1 -> 0
            act 1 0 0 9 -> STATE
            act 1 6 0 5 -> 6; history 1 1 1 -> 0; owed 1 -> 0
            """);
    }

    private static void wantedNoMore(Due due) {
        Run.of(due, "An act that is not LATE makes that nobody wants it WITHDRAWN", """
            copy 0 18 1 0 -> 1; copy 0 26 1 0 -> 2
            weed 1 7 -> 1; weed 2 7 -> 1
            act 1 0 0 5 -> 0
            weed 1 7 -> 1; weed 2 7 -> STATE
            act 1 6 0 5 -> 6
            weed 1 8 -> 1; weed 1 7 -> 2
            weed 2 8 -> 2
            """);
        String[] acts = {"1", "2", "3", "4", "5", "6"};
        for (String kind : acts) {
            String rows = """
                copy 0 18 1 0 -> 1
                act 1 0 0 5 -> 0
                weed 1 7 -> 1
                act 1 K 3 5 -> K
                act 1 0 0 5 -> 0
                weed 1 8 -> 1; count 7 NONE -> 0
                weed 1 7 -> 2; count 7 NONE -> 1
                """;
            Run.of(due, "nobody wants it WITHDRAWN after act " + kind, rows.replace("K", kind));
        }
    }

    private static void wantedStill(Due due) {
        Run.of(due, "by a LATE act it is wanted still", """
            copy 0 18 1 0 -> 1; copy 0 26 1 0 -> 2
            act 2 0 0 20 -> 0
            weed 1 7 -> 1
            act 1 0 0 10 -> 0; act 1 1 0 11 -> 1; act 1 0 0 12 -> 0
            weed 1 7 -> STATE
            weed 1 8 -> 2; count 7 NONE -> 1
            """);
        Run.of(due, "by a refused act, and by another copy's, it is wanted still", """
            copy 0 18 1 0 -> 1; copy 0 26 1 0 -> 2
            right 4 0 false -> true
            weed 1 7 -> 1
            act 1 1 0 5 -> STATE; act 1 2 0 5 -> NONE; act 1 2 4 5 -> RIGHT; act 1 7 0 5 -> NONE
            act 2 0 0 5 -> 0
            weed 1 7 -> STATE; weed 1 8 -> 2
            """);
    }
}
