/** The edges of promise 11: weed. */
public final class Promise11EdgeTest {
    public static void main(String[] args) {
        Due due = new Due("promise 11, edges");
        persons(due);
        noSuchCopy(due);
        wantsItAlready(due);
        secondOne(due);
        everyState(due);
        byTheStateOfNow(due);
        itsDay(due);
        itsDayWithoutActs(due);
        countsAsOneOfThese(due);
        behindTheLastDay(due);
        due.end();
    }

    private static void persons(Due due) {
        Run.of(due, "Somebody, 0 .. 99", """
            copy 0 18 1 0 -> 1; copy 0 26 1 0 -> 2
            weed 1 -1 -> NONE; weed 1 100 -> NONE; weed 1 LEAST -> NONE; weed 1 MOST -> NONE
            weed 1 0 -> 1
            weed 1 -1 -> NONE; weed 1 100 -> NONE; count 7 NONE -> 0
            weed 1 99 -> 2; count 7 NONE -> 1
            weed 2 99 -> 1; weed 2 0 -> 2; count 7 NONE -> 2
            weed 1 -1 -> NONE; weed 1 100 -> NONE
            """);
        Run.of(due, "NONE if there is no such .. person, in any state", """
            copy 0 18 1 0 -> 1; act 1 0 0 1 -> 0; act 1 1 0 1 -> 1
            weed 1 -1 -> NONE; weed 1 100 -> NONE; weed 1 0 -> STATE; weed 1 99 -> STATE
            """);
    }

    private static void noSuchCopy(Due due) {
        Run.of(due, "NONE if there is no such copy", """
            weed 1 0 -> NONE
            copy 0 18 1 0 -> 1; copy 0 26 1 0 -> 2
            weed -1 0 -> NONE; weed 0 0 -> NONE; weed 3 0 -> NONE; weed 80 0 -> NONE; weed 81 0 -> NONE
            weed LEAST 0 -> NONE; weed MOST 0 -> NONE; weed 0 -1 -> NONE; weed 3 100 -> NONE
            weed 1 0 -> 1; weed 2 0 -> 1
            copy 0 34 1 0 -> 3; weed 3 0 -> 1
            """);
    }

    private static void wantsItAlready(Due due) {
        Run.of(due, "STATE if .. that person wants it already", """
            copy 0 18 1 0 -> 1; copy 0 26 1 0 -> 2
            weed 1 0 -> 1; weed 1 0 -> STATE; weed 1 0 -> STATE; count 7 NONE -> 0; history 1 0 0 -> NONE
            weed 2 0 -> 1; weed 2 0 -> STATE
            weed 1 1 -> 2; weed 1 0 -> STATE; weed 1 1 -> STATE; weed 1 2 -> STATE
            weed 2 0 -> STATE; count 7 NONE -> 1
            """);
        Run.of(due, "STATE if .. that person wants it already, the 99th", """
            copy 0 18 1 0 -> 1
            weed 1 99 -> 1; weed 1 99 -> STATE; weed 1 98 -> 2
            """);
    }

    private static void secondOne(Due due) {
        Run.of(due, "with the second one, another person, it is", """
            copy 0 18 1 3 -> 1; copy 0 26 1 3 -> 2
            weed 1 5 -> 1; count 3 NONE -> 2; count 7 NONE -> 0; history 1 0 0 -> NONE
            weed 2 6 -> 1; count 7 NONE -> 0
            weed 1 6 -> 2; count 3 NONE -> 1; count 7 NONE -> 1; count 7 3 -> 1
            history 1 0 0 -> 7; history 1 0 1 -> 0; history 1 1 0 -> NONE
            place 1 -> 3; home 1 -> 3; owed 1 -> 0
            """);
        Run.of(due, "how many want it: from 1 again after an act", """
            copy 0 18 1 0 -> 1
            weed 1 5 -> 1; act 1 0 0 1 -> 0; weed 1 5 -> 1; act 1 6 0 1 -> 6; weed 1 6 -> 1; weed 1 5 -> 2
            """);
    }

    private static void everyState(Due due) {
        for (int state = 0; state <= 7; state++) {
            boolean can = state == 0 || state == 3 || state == 6;
            ItemStates x = House.inState(state, 5);
            due.is("state " + state + ": the first", x.weed(1, 20), can ? 1 : -2);
            due.is("state " + state + ": as before", x.count(state, -1), 1);
            due.is("state " + state + ": the second", x.weed(1, 21), can ? 2 : -2);
            due.is("state " + state + ": withdrawn or as before", x.count(can ? 7 : state, -1), 1);
            due.is("state " + state + ": the third", x.weed(1, 22), -2);
        }
    }

    private static void byTheStateOfNow(Due due) {
        Run.of(due, "if it is ON SHELF .. : now, though a LATE act lent it", """
            copy 0 18 1 0 -> 1; copy 0 26 1 0 -> 2
            act 1 0 0 1 -> 0; act 2 0 0 9 -> 0; act 1 1 0 5 -> 1; state 1 9 -> 1
            weed 1 0 -> 1; weed 1 1 -> 2; state 1 9 -> 1; state 1 10 -> 7
            """);
        Run.of(due, "STATE if it is in another state: now, though a LATE act brought it back", """
            copy 0 18 1 0 -> 1; copy 0 26 1 0 -> 2
            act 1 0 0 1 -> 0; act 1 1 0 1 -> 1; act 2 0 0 9 -> 0; act 1 0 0 5 -> 0; state 1 9 -> 0
            weed 1 0 -> STATE; weed 1 1 -> STATE; count 7 NONE -> 0
            act 1 0 0 9 -> 0; weed 1 0 -> 1
            """);
    }

    private static void itsDay(Due due) {
        Run.of(due, "its day is 1 more than the greatest one of all acts that went", """
            copy 0 18 1 0 -> 1; copy 0 26 1 0 -> 2
            act 1 0 0 10 -> 0; act 2 0 0 40 -> 0; act 1 6 0 20 -> 6
            weed 1 0 -> 1; weed 1 1 -> 2
            state 1 40 -> 6; state 1 41 -> 7; state 2 41 -> 0
            weed 2 0 -> 1; weed 2 1 -> 2
            state 2 41 -> 0; state 2 42 -> 7
            """);
        Run.of(due, "of all acts that went: on day 0", """
            copy 0 18 1 0 -> 1; act 1 0 0 0 -> 0; weed 1 0 -> 1; weed 1 1 -> 2
            state 1 0 -> 0; state 1 1 -> 7
            """);
        Run.of(due, "of all acts that went: a refused one did not", """
            copy 0 18 1 0 -> 1; act 1 0 0 7 -> 0; act 1 0 0 90 -> STATE; act 1 7 0 90 -> NONE
            weed 1 0 -> 1; weed 1 1 -> 2
            state 1 7 -> 0; state 1 8 -> 7
            """);
    }

    private static void itsDayWithoutActs(Due due) {
        Run.of(due, "or 1", """
            copy 0 18 1 0 -> 1; copy 0 26 1 0 -> 2
            weed 1 0 -> 1; weed 1 1 -> 2
            state 1 -1 -> 3; state 1 0 -> 3; state 1 1 -> 7
            weed 2 0 -> 1; weed 2 1 -> 2
            state 2 1 -> 3; state 2 2 -> 7
            """);
    }

    private static void countsAsOneOfThese(Due due) {
        Run.of(due, "it counts as one of these: what is LATE after it", """
            copy 0 18 1 0 -> 1; copy 0 26 1 0 -> 2
            act 1 0 0 10 -> 0; weed 1 0 -> 1; weed 1 1 -> 2
            act 2 0 0 10 -> 0; history 2 0 1 -> 1; count 3 NONE -> 1
            act 2 0 0 11 -> 0; history 2 1 1 -> 0; count 0 NONE -> 1
            act 2 1 0 10 -> 1; history 2 1 1 -> 1
            act 1 6 0 10 -> 6; history 1 1 1 -> 1; state 1 10 -> 6; state 1 11 -> 7
            act 1 0 0 11 -> STATE
            """);
        Run.of(due, "it counts as one of these: when no act went before", """
            copy 0 18 1 0 -> 1; copy 0 26 1 0 -> 2
            weed 1 0 -> 1
            act 2 0 0 0 -> 0; history 2 0 1 -> 0
            weed 1 1 -> 2
            act 2 1 0 0 -> 1; history 2 1 1 -> 1; count 0 NONE -> 1
            act 2 1 0 1 -> 1; history 2 2 1 -> 0; count 1 NONE -> 1
            """);
    }

    private static void behindTheLastDay(Due due) {
        Run.of(due, "1 more than the last day of acts", """
            copy 0 18 1 0 -> 1; copy 0 26 1 0 -> 2; copy 0 34 1 0 -> 3
            act 1 0 0 1000000000000 -> 0
            weed 1 0 -> 1; weed 1 1 -> 2
            state 1 1000000000000 -> 0; state 1 1000000000001 -> 7
            act 3 0 0 1000000000001 -> NONE
            act 3 0 0 1000000000000 -> 0; history 3 0 1 -> 1; count 3 NONE -> 2
            weed 2 0 -> 1; weed 2 1 -> 2
            state 2 1000000000001 -> 3; state 2 1000000000002 -> 7
            """);
    }
}
