/**
 * Sentences of the document that speak of one thing in two places, held together. Where they leave
 * room, the run says which reading the class keeps (README.md lists these).
 */
public final class TogetherTest {
    public static void main(String[] args) {
        Due due = new Due("together");
        standsAndGoes(due);
        lostOnItsWay(due);
        lossesAndFees(due);
        lateByAnotherCopy(due);
        lateAndNow(due);
        lateAndWithdrawn(due);
        weedAndLate(due);
        lateSend(due);
        floatsAndCounts(due);
        refusalsInTheirOrder(due);
        due.end();
    }

    private static void standsAndGoes(Due due) {
        Run.of(due, "Where a copy stands now / it stands where it is, of IN TRANSIT at its end", """
            copy 0 18 1 3 -> 1; place 1 -> 3
            act 1 2 5 1 -> 2; place 1 -> 5; home 1 -> 3
            act 1 0 8 2 -> 0; place 1 -> 5; home 1 -> 3
            act 1 2 5 3 -> NONE; act 1 2 3 3 -> 2; place 1 -> 3
            """);
    }

    /** Reading: no word says that act 6 moves a copy, so place() tells what it told before. */
    private static void lostOnItsWay(Due due) {
        Run.of(due, "Where a copy stands now: MISSING out of IN TRANSIT, and found", """
            copy 0 18 1 3 -> 1; floats 1 true -> false; fee 0 70 -> 0
            act 1 2 5 1 -> 2; act 1 6 0 2 -> 6; place 1 -> 5; owed 1 -> 0; home 1 -> 3
            right 5 0 false -> true
            act 1 0 0 3 -> 0; place 1 -> 5; home 1 -> 5
            """);
        Run.of(due, "the one that place() tells: MISSING out of IN TRANSIT, and processed", """
            copy 0 18 1 3 -> 1
            act 1 2 5 1 -> 2; act 1 6 0 2 -> 6; act 1 2 3 2 -> STATE; act 1 2 5 2 -> NONE
            act 1 3 0 3 -> 3; place 1 -> 5
            act 1 2 5 4 -> NONE; act 1 2 3 4 -> 2; place 1 -> 3
            """);
    }

    /** Reading: losses come to their sum, each at the fee that its type had when it was lost. */
    private static void lossesAndFees(Due due) {
        Run.of(due, "What a copy's losses come to / its FEE is that of its type", """
            copy 2 18 1 0 -> 1; copy 2 26 1 0 -> 2
            act 1 0 0 1 -> 0; act 1 1 0 1 -> 1; act 1 6 0 1 -> 6; owed 1 -> 0
            fee 2 100 -> 0; owed 1 -> 0; act 1 0 0 2 -> 0; owed 1 -> 0
            act 1 4 0 2 -> 4; act 1 1 0 2 -> 1; act 1 6 0 2 -> 6; owed 1 -> 100
            fee 2 7 -> 100; act 1 3 0 3 -> 3; act 1 0 0 3 -> 0; owed 1 -> 100
            act 1 1 0 3 -> 1; act 1 6 0 3 -> 6; owed 1 -> 107; owed 2 -> 0
            weed 1 0 -> 1; weed 1 1 -> 2; owed 1 -> 107
            """);
        Run.of(due, "by an act that is not LATE / the state of now", """
            copy 2 18 1 0 -> 1; copy 2 26 1 0 -> 2; fee 2 100 -> 0
            act 1 0 0 1 -> 0; act 1 1 0 1 -> 1; act 2 0 0 9 -> 0
            act 1 6 0 5 -> 6; owed 1 -> 0; state 1 9 -> 6; count 1 NONE -> 1
            act 1 6 0 9 -> 6; owed 1 -> 100
            """);
    }

    /** Reading: "all acts that went" are those on every copy of the object. */
    private static void lateByAnotherCopy(Due due) {
        Run.of(due, "the greatest one of all acts that went", """
            copy 0 18 1 0 -> 1; copy 0 26 1 0 -> 2
            act 1 0 0 10 -> 0
            act 2 0 0 9 -> 0; history 2 0 1 -> 1; count 0 NONE -> 1; state 2 9 -> 0
            weed 1 0 -> 1; weed 1 1 -> 2; state 1 10 -> 0; state 1 11 -> 7
            act 2 1 0 10 -> 1; history 2 1 1 -> 1; count 3 NONE -> 1
            act 2 0 0 11 -> 0; history 2 2 1 -> 0; count 0 NONE -> 1
            """);
    }

    private static void lateAndNow(Due due) {
        Run.of(due, "entered at its day / the state of now is not changed / the state of that day", """
            copy 0 18 1 0 -> 1; copy 0 26 1 0 -> 2
            act 1 0 0 5 -> 0; act 1 4 0 8 -> 4; act 2 0 0 20 -> 0
            act 1 5 0 5 -> 5; act 1 4 0 6 -> STATE; act 1 0 0 7 -> 0
            state 1 4 -> 3; state 1 5 -> 5; state 1 7 -> 0; state 1 8 -> 4
            act 1 6 0 15 -> 6; state 1 20 -> 6; count 4 NONE -> 1; count 6 NONE -> 0
            act 1 3 0 20 -> STATE; act 1 3 0 15 -> 3; act 1 1 0 20 -> 1; state 1 20 -> 1
            history 1 0 1 -> 0; history 1 1 1 -> 1; history 1 2 1 -> 1; history 1 3 1 -> 0
            history 1 4 1 -> 1; history 1 5 1 -> 1; history 1 6 1 -> 0; history 1 7 1 -> NONE
            """);
    }

    /** Reading: a copy that is WITHDRAWN now takes a LATE act by the state of that day, and stays so. */
    private static void lateAndWithdrawn(Due due) {
        Run.of(due, "can only be one that could follow the state of that day / WITHDRAWN .. stays so", """
            copy 0 18 1 0 -> 1; copy 0 26 1 0 -> 2
            act 1 0 0 5 -> 0; weed 1 0 -> 1; weed 1 1 -> 2; act 2 0 0 20 -> 0
            act 1 1 0 5 -> 1; act 1 1 0 5 -> STATE; act 1 0 0 6 -> STATE; act 1 0 0 19 -> STATE
            state 1 5 -> 1; state 1 6 -> 7; state 1 20 -> 7; count 7 NONE -> 1
            act 1 0 0 20 -> STATE; weed 1 2 -> STATE
            history 1 0 0 -> 0; history 1 1 0 -> 1; history 1 2 0 -> 7; history 1 2 1 -> 0
            """);
    }

    private static void weedAndLate(Due due) {
        Run.of(due, "if it is ON SHELF, PROCESSING or MISSING / the state of now", """
            copy 0 18 1 0 -> 1; copy 0 26 1 0 -> 2
            act 1 0 0 5 -> 0; act 1 1 0 6 -> 1; act 2 0 0 20 -> 0
            act 1 0 0 10 -> 0; state 1 20 -> 0; weed 1 0 -> STATE
            act 2 1 0 15 -> STATE; weed 2 0 -> 1; act 2 6 0 15 -> 6; weed 2 0 -> STATE
            weed 2 1 -> 2; state 2 20 -> 0; state 2 21 -> 7
            act 1 0 0 20 -> STATE; act 1 4 0 20 -> 4; history 1 3 1 -> 1; count 1 NONE -> 1
            """);
    }

    /** Reading: NONE and RIGHT (of 2) are said without "not LATE", so they hold of a LATE send too. */
    private static void lateSend(Due due) {
        Run.of(due, "or the one that place() tells / RIGHT if (of 2) that place has no right, LATE", """
            copy 0 18 1 3 -> 1
            act 1 0 0 5 -> 0; act 1 2 4 20 -> 2; right 6 0 false -> true
            act 1 2 4 10 -> NONE; act 1 2 6 10 -> RIGHT; act 1 2 3 10 -> 2; place 1 -> 4
            right 4 0 false -> true
            act 1 0 0 11 -> 0; state 1 11 -> 0; place 1 -> 4; act 1 0 0 20 -> RIGHT; count 2 NONE -> 1
            """);
    }

    private static void floatsAndCounts(Due due) {
        Run.of(due, "A copy's home is where it stands now / whose home is a place", """
            copy 0 18 1 3 -> 1; copy 0 26 1 3 -> 2; floats 1 true -> false
            act 1 2 4 5 -> 2; act 2 2 4 5 -> 2; count 2 3 -> 2; count 2 4 -> 0
            act 1 0 0 6 -> 0; act 2 0 0 6 -> 0; count 0 3 -> 1; count 0 4 -> 1; count 0 NONE -> 2
            weed 1 0 -> 1; weed 1 1 -> 2; count 7 4 -> 1; count 7 3 -> 0; count 0 4 -> 0; home 1 -> 4
            """);
    }

    private static void refusalsInTheirOrder(Due due) {
        Run.of(due, "NONE .. ; STATE as told; RIGHT ..", """
            copy 0 18 1 3 -> 1; right 6 0 false -> true; right 3 0 false -> true
            act 1 0 0 5 -> 0; act 1 2 3 5 -> NONE; act 1 2 6 5 -> RIGHT; act 1 1 0 5 -> 1
            act 1 2 3 5 -> NONE; act 1 2 10 5 -> NONE; act 1 2 6 -1 -> NONE; act 1 2 6 5 -> STATE
            copy 0 18 1 3 -> NONE; copy 0 27 1 3 -> NONE; copy 0 26 1 3 -> RIGHT
            weed 1 100 -> NONE; weed 1 99 -> STATE
            """);
    }
}
