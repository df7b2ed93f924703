/** The edges that the document's Terms name, a test for each sentence. */
public final class TermsEdgeTest {
    private static final String[] FOLLOWS = {"123456", "04", "03", "06", "0", "03", "012345"};

    public static void main(String[] args) {
        Due due = new Due("terms, edges");
        copies(due);
        types(due);
        places(due);
        rightsAtFirst(due);
        atFirst(due);
        digitsOfABarcode(due);
        doubledInTurn(due);
        doubledAboveNine(due);
        multipleOfTen(due);
        leadingZeros(due);
        toldAsANumber(due);
        lateOrNot(due);
        actsThatWent(due);
        enteredAtItsDay(due);
        stateOfNow(due);
        everyActInEveryState(due);
        everyLateActByTheStateOfThatDay(due);
        standsWhereItIs(due);
        withdrawnStaysSo(due);
        feeOfALoan(due);
        feeByAnActNotLate(due);
        feeStays(due);
        due.end();
    }

    private static void copies(Due due) {
        Run.of(due, "COPIES are 1 .. 80, as they come", """
            copy 0 18 1 0 -> 1
            copy 0 19 1 0 -> NONE
            copy 0 26 1 2 -> 2
            copy 6 34 1 0 -> NONE
            copy 0 34 1 9 -> 3
            place 0 -> NONE; place 1 -> 0; place 2 -> 2; place 3 -> 9; place 4 -> NONE
            """);
        ItemStates x = House.with(80);
        int[] none = {0, 81, -1};
        for (int copy : none) {
            due.is("act on " + copy + " of 80", x.act(copy, 0, 0, 1), -1);
            due.is("state of " + copy + " of 80", x.state(copy, 1), -1);
            due.is("place of " + copy + " of 80", x.place(copy), -1);
            due.is("home of " + copy + " of 80", x.home(copy), -1);
            due.is("owed of " + copy + " of 80", x.owed(copy), -1);
            due.is("history of " + copy + " of 80", x.history(copy, 0, 0), -1);
            due.is("weed of " + copy + " of 80", x.weed(copy, 0), -1);
        }
        int[] ends = {1, 80};
        for (int copy : ends) {
            due.is("act on " + copy + " of 80", x.act(copy, 0, 0, 1), 0);
            due.is("state of " + copy + " of 80", x.state(copy, 1), 0);
            due.is("place of " + copy + " of 80", x.place(copy), 0);
            due.is("history of " + copy + " of 80", x.history(copy, 0, 0), 0);
        }
        due.is("the others of 80", x.count(3, -1), 78);
    }

    private static void types(Due due) {
        Run.of(due, "a TYPE, 0 .. 5", """
            copy -1 18 1 0 -> NONE; copy 0 18 1 0 -> 1; copy 5 26 1 0 -> 2; copy 6 34 1 0 -> NONE
            copy LEAST 34 1 0 -> NONE; copy MOST 34 1 0 -> NONE
            fee -1 5 -> NONE; fee 0 5 -> 0; fee 5 6 -> 0; fee 6 5 -> NONE
            fee 0 0 -> 5; fee 5 0 -> 6
            right 0 -1 true -> false; right 0 0 true -> true; right 0 5 true -> true; right 0 6 true -> false
            """);
    }

    private static void places(Due due) {
        Run.of(due, "PLACES are 0 .. 9", """
            copy 0 18 1 -1 -> NONE; copy 0 18 1 0 -> 1; copy 0 26 1 9 -> 2; copy 0 34 1 10 -> NONE
            copy 0 34 1 LEAST -> NONE; copy 0 34 1 MOST -> NONE
            right -1 0 true -> false; right 0 0 true -> true; right 9 0 true -> true; right 10 0 true -> false
            act 1 2 -1 1 -> NONE; act 1 2 10 1 -> NONE
            act 1 2 9 1 -> 2; act 2 2 0 1 -> 2
            place 1 -> 9; place 2 -> 0
            count 2 0 -> 1; count 2 9 -> 1; count 2 10 -> 0
            """);
    }

    private static void rightsAtFirst(Due due) {
        ItemStates x = new ItemStates();
        for (int i = 0; i < 60; i++) {
            due.is("all at first: type " + i % 6 + " at " + i / 6, House.add(x, i % 6, i, i / 6), i + 1);
        }
    }

    private static void atFirst(Due due) {
        Run.of(due, "At first it is PROCESSING, at home", """
            copy 2 18 1 7 -> 1
            state 1 LEAST -> 3; state 1 -1 -> 3; state 1 0 -> 3; state 1 MOST -> 3
            count 3 NONE -> 1; count 3 7 -> 1; count 0 NONE -> 0
            place 1 -> 7; home 1 -> 7; owed 1 -> 0; history 1 0 0 -> NONE
            floats 1 false -> false
            """);
    }

    private static void digitsOfABarcode(Due due) {
        Run.of(due, "A BARCODE is 1 to 12 digits", """
            copy 0 0 0 0 -> NONE
            copy 0 18 0 0 -> NONE
            copy 0 18 1 0 -> 1
            copy 0 1234567890128 12 0 -> 2
            copy 0 1234567890128 13 0 -> NONE
            copy 0 1234567890128 11 0 -> NONE
            copy 0 10000000000008 12 0 -> NONE
            copy 0 10000000000008 13 0 -> NONE
            copy 0 18 13 0 -> NONE
            copy 0 18 -1 0 -> NONE
            """);
    }

    private static void doubledInTurn(Due due) {
        Run.of(due, "from the right the digits are doubled in turn, the rightmost one too", """
            check 1 1 -> 8; check 10 2 -> 9; check 100 3 -> 8; check 1000 4 -> 9
            check 10000 5 -> 8; check 100000 6 -> 9; check 1000000 7 -> 8; check 10000000 8 -> 9
            check 100000000 9 -> 8; check 1000000000 10 -> 9; check 10000000000 11 -> 8
            check 100000000000 12 -> 9
            check 11 2 -> 7; check 111 3 -> 5
            """);
    }

    private static void doubledAboveNine(Due due) {
        Run.of(due, "of a doubled one above 9 the digits' sum counts", """
            check 4 1 -> 2; check 5 1 -> 9; check 6 1 -> 7; check 7 1 -> 5; check 8 1 -> 3; check 9 1 -> 1
            check 50 2 -> 5; check 90 2 -> 1
            check 400 3 -> 2; check 500 3 -> 9; check 900 3 -> 1
            """);
    }

    private static void multipleOfTen(Due due) {
        Run.of(due, "the CHECK sign is the digit that makes the sum of all a multiple of 10", """
            check 0 1 -> 0
            check 9 1 -> 1
            check 95 2 -> 0
            check 81 2 -> 0
            check 91 2 -> 9
            check 999 3 -> 3
            check 999999999999 12 -> 2
            """);
    }

    private static void leadingZeros(Due due) {
        Run.of(due, "leading zeros count as digits", """
            check 5 1 -> 9; check 5 2 -> 9; check 5 12 -> 9; check 0 1 -> 0; check 0 12 -> 0
            copy 0 59 1 0 -> 1; copy 0 59 2 0 -> 2; copy 0 59 12 0 -> 3
            copy 0 59 1 0 -> NONE; copy 0 59 2 0 -> NONE; copy 0 59 12 0 -> NONE
            copy 0 0 1 0 -> 4; copy 0 0 12 0 -> 5; copy 0 0 1 0 -> NONE
            """);
    }

    private static void toldAsANumber(Due due) {
        Run.of(due, "It is told as a number: the digits, then the check sign", """
            copy 0 81 1 0 -> NONE
            copy 0 1 1 0 -> NONE
            copy 0 118 1 0 -> NONE
            copy 0 18 1 0 -> 1
            copy 0 109 2 0 -> 2
            """);
    }

    private static void lateOrNot(Due due) {
        Run.of(due, "a day below the greatest one of all acts that went is LATE", """
            copy 0 18 1 0 -> 1; copy 0 26 1 0 -> 2
            act 1 0 0 10 -> 0; history 1 0 1 -> 0
            act 1 1 0 10 -> 1; history 1 1 1 -> 0
            act 1 0 0 11 -> 0; history 1 2 1 -> 0
            act 1 6 0 10 -> 6; history 1 2 0 -> 6; history 1 2 1 -> 1; history 1 3 1 -> 0
            act 2 0 0 10 -> 0; history 2 0 1 -> 1; count 3 NONE -> 1
            act 2 0 0 11 -> 0; history 2 1 1 -> 0; count 3 NONE -> 0
            """);
        Run.of(due, "days never go back by acts", """
            copy 0 18 1 0 -> 1
            act 1 0 0 10 -> 0
            act 1 5 0 5 -> 5
            act 1 0 0 7 -> 0
            history 1 0 0 -> 5; history 1 0 1 -> 1
            history 1 1 0 -> 0; history 1 1 1 -> 1
            history 1 2 0 -> 0; history 1 2 1 -> 0
            """);
        Run.of(due, "LATE: none is, before the first act", """
            copy 0 18 1 0 -> 1
            act 1 0 0 0 -> 0; history 1 0 1 -> 0
            act 1 1 0 0 -> 1; history 1 1 1 -> 0
            count 1 NONE -> 1
            """);
    }

    private static void actsThatWent(Due due) {
        Run.of(due, "of all acts that went", """
            copy 0 18 1 0 -> 1
            right 3 0 false -> true
            act 1 1 0 50 -> STATE
            act 1 2 0 50 -> NONE
            act 1 2 3 50 -> RIGHT
            act 2 0 0 50 -> NONE
            act 1 7 0 50 -> NONE
            act 1 0 0 1000000000001 -> NONE
            weed 1 0 -> 1
            act 1 0 0 10 -> 0
            history 1 0 1 -> 0
            count 0 NONE -> 1
            """);
    }

    private static void enteredAtItsDay(Due due) {
        Run.of(due, "such an act is entered at its day", """
            copy 0 18 1 0 -> 1
            act 1 0 0 10 -> 0; act 1 1 0 20 -> 1
            act 1 4 0 15 -> 4
            state 1 14 -> 0; state 1 15 -> 4; state 1 19 -> 4; state 1 20 -> 1
            history 1 0 0 -> 0; history 1 1 0 -> 4; history 1 2 0 -> 1; history 1 3 0 -> NONE
            """);
    }

    private static void stateOfNow(Due due) {
        Run.of(due, "but the state of now is not changed by it", """
            copy 0 18 1 0 -> 1; copy 0 26 1 0 -> 2
            act 1 0 0 5 -> 0; act 2 0 0 20 -> 0
            act 1 1 0 10 -> 1
            state 1 10 -> 1; state 1 20 -> 1
            count 1 NONE -> 0; count 0 NONE -> 2
            act 1 0 0 20 -> STATE
            weed 1 0 -> 1
            act 1 4 0 20 -> 4
            """);
        Run.of(due, "not changed by it: place, home and fee", """
            copy 0 18 1 0 -> 1; copy 0 26 1 0 -> 2
            fee 0 70 -> 0; floats 1 true -> false
            act 1 2 4 5 -> 2; act 2 0 0 20 -> 0
            act 1 0 0 10 -> 0; home 1 -> 0
            act 1 1 0 10 -> 1; act 1 6 0 10 -> 6; owed 1 -> 0
            act 1 3 0 10 -> 3; act 1 2 7 10 -> 2; place 1 -> 4
            count 2 NONE -> 1
            """);
    }

    private static void everyActInEveryState(Due due) {
        for (int state = 0; state <= 7; state++) {
            for (int kind = 0; kind <= 6; kind++) {
                ItemStates x = House.inState(state, 5);
                boolean goes = FOLLOWS[kind].indexOf('0' + state) >= 0;
                String call = "act " + kind + " of " + state;
                due.is(call, x.act(1, kind, 2, 9), goes ? kind : -2);
                due.is(call + ": the state on its day", x.state(1, 9), goes ? kind : state);
                due.is(call + ": the state of now", x.count(goes ? kind : state, -1), 1);
            }
        }
    }

    /** It is in one state on day 5, in another one now, and the act comes for day 7. */
    private static void everyLateActByTheStateOfThatDay(Due due) {
        for (int then = 0; then <= 6; then++) {
            for (int now = 0; now <= 7; now++) {
                for (int kind = 0; kind <= 6; kind++) {
                    ItemStates x = thenAndNow(then, now);
                    boolean goes = FOLLOWS[kind].indexOf('0' + then) >= 0;
                    String call = "late act " + kind + " of " + then + ", now " + now;
                    due.is(call, x.act(1, kind, 8, 7), goes ? kind : -2);
                    due.is(call + ": the state on its day", x.state(1, 7), goes ? kind : then);
                    due.is(call + ": the state of now", x.count(now, -1), 1);
                    due.is(call + ": the day of now", x.state(1, 11), now);
                }
            }
        }
    }

    private static ItemStates thenAndNow(int then, int now) {
        ItemStates x = House.inState(then, 5);
        if (then != 0) {
            x.act(1, 0, 0, 10);
        }
        // Whatever then was, an act of day 10 has to stand, so that day 7 is LATE.
        x.act(1, 6, 0, 10);
        x.act(1, 0, 0, 10);
        if (now >= 1 && now <= 6) {
            x.act(1, now, 3, 10);
        }
        if (now == 7) {
            x.weed(1, 0);
            x.weed(1, 1);
        }
        return x;
    }

    private static void standsWhereItIs(Due due) {
        Run.of(due, "it stands where it is, of IN TRANSIT at its end", """
            copy 0 18 1 3 -> 1
            act 1 0 9 1 -> 0; place 1 -> 3
            act 1 2 5 2 -> 2; place 1 -> 5
            act 1 0 9 3 -> 0; place 1 -> 5
            act 1 1 9 4 -> 1; place 1 -> 5; act 1 0 9 4 -> 0; place 1 -> 5
            act 1 3 9 5 -> 3; place 1 -> 5; act 1 0 9 5 -> 0; place 1 -> 5
            act 1 4 9 6 -> 4; place 1 -> 5; act 1 0 9 6 -> 0; place 1 -> 5
            act 1 5 9 7 -> 5; place 1 -> 5; act 1 0 9 7 -> 0; place 1 -> 5
            act 1 6 9 8 -> 6; place 1 -> 5; act 1 0 9 8 -> 0; place 1 -> 5
            """);
    }

    private static void withdrawnStaysSo(Due due) {
        Run.of(due, "WITHDRAWN is a copy by weed alone, and stays so", """
            copy 0 18 1 0 -> 1
            act 1 7 0 1 -> NONE; count 7 NONE -> 0
            weed 1 0 -> 1; count 7 NONE -> 0
            weed 1 1 -> 2; count 7 NONE -> 1
            act 1 0 0 1 -> STATE; act 1 1 0 1 -> STATE; act 1 2 3 1 -> STATE; act 1 3 0 1 -> STATE
            act 1 4 0 1 -> STATE; act 1 5 0 1 -> STATE; act 1 6 0 1 -> STATE
            act 1 0 0 1000000000000 -> STATE
            weed 1 0 -> STATE; weed 1 1 -> STATE; weed 1 2 -> STATE
            act 1 0 0 0 -> 0; state 1 0 -> 0; state 1 1 -> 7; count 7 NONE -> 1
            act 1 1 0 2 -> STATE; weed 1 2 -> STATE
            state 1 MOST -> 7; count 7 0 -> 1
            """);
    }

    private static void feeOfALoan(Due due) {
        for (int state = 0; state <= 7; state++) {
            ItemStates x = House.inState(state, 5);
            x.fee(0, 70);
            x.act(1, 6, 0, 9);
            due.is("MISSING of state " + state, x.owed(1), state == 1 ? 70 : 0);
        }
        Run.of(due, "its FEE is that of its type (0 at first)", """
            copy 4 18 1 0 -> 1; copy 5 26 1 0 -> 2
            fee 5 33 -> 0
            act 1 0 0 1 -> 0; act 1 1 0 1 -> 1; act 1 6 0 1 -> 6; owed 1 -> 0; owed 2 -> 0
            fee 4 44 -> 0; owed 1 -> 0
            act 2 0 0 1 -> 0; act 2 1 0 1 -> 1; act 2 6 0 1 -> 6; owed 2 -> 33; owed 1 -> 0
            """);
    }

    private static void feeByAnActNotLate(Due due) {
        Run.of(due, "while it is ON LOAN, by an act that is not LATE", """
            copy 0 18 1 0 -> 1; copy 0 26 1 0 -> 2; fee 0 70 -> 0
            act 1 0 0 5 -> 0; act 1 1 0 5 -> 1; act 2 0 0 20 -> 0
            act 1 6 0 10 -> 6; owed 1 -> 0
            act 1 6 0 20 -> 6; owed 1 -> 70
            """);
        Run.of(due, "ON LOAN now, though a LATE act brought it back", """
            copy 0 18 1 0 -> 1; copy 0 26 1 0 -> 2; fee 0 70 -> 0
            act 1 0 0 5 -> 0; act 1 1 0 5 -> 1; act 2 0 0 20 -> 0
            act 1 0 0 10 -> 0
            act 1 6 0 20 -> 6; owed 1 -> 70
            """);
        Run.of(due, "not ON LOAN now, though a LATE act lent it", """
            copy 0 18 1 0 -> 1; copy 0 26 1 0 -> 2; fee 0 70 -> 0
            act 1 0 0 5 -> 0; act 2 0 0 20 -> 0
            act 1 1 0 10 -> 1
            act 1 6 0 20 -> 6; owed 1 -> 0
            """);
    }

    private static void feeStays(Due due) {
        Run.of(due, "once it is found the fee stays", """
            copy 0 18 1 0 -> 1; fee 0 70 -> 0
            act 1 0 0 1 -> 0; act 1 1 0 1 -> 1; act 1 6 0 2 -> 6; owed 1 -> 70
            fee 0 0 -> 70; owed 1 -> 70
            act 1 0 0 3 -> 0; owed 1 -> 70
            act 1 6 0 4 -> 6; owed 1 -> 70
            act 1 3 0 5 -> 3; owed 1 -> 70
            weed 1 0 -> 1; weed 1 1 -> 2; owed 1 -> 70
            """);
    }
}
