/** The edges of promise 3: copy. */
public final class Promise03EdgeTest {
    public static void main(String[] args) {
        Due due = new Due("promise 3, edges");
        noSuchType(due);
        noSuchHome(due);
        wrongSign(due);
        belowZero(due);
        thisBarcode(due);
        eighty(due);
        noRight(due);
        noneBeforeRight(due);
        due.end();
    }

    private static void noSuchType(Due due) {
        Run.of(due, "NONE if there is no such type", """
            copy -1 18 1 0 -> NONE; copy 6 18 1 0 -> NONE; copy LEAST 18 1 0 -> NONE; copy MOST 18 1 0 -> NONE
            count 3 NONE -> 0
            copy 0 18 1 0 -> 1; copy 5 26 1 0 -> 2
            """);
    }

    private static void noSuchHome(Due due) {
        Run.of(due, "no such type or home", """
            copy 0 18 1 -1 -> NONE; copy 0 18 1 10 -> NONE; copy 0 18 1 LEAST -> NONE; copy 0 18 1 MOST -> NONE
            count 3 NONE -> 0
            copy 0 18 1 0 -> 1; copy 0 26 1 9 -> 2
            """);
    }

    private static void wrongSign(Due due) {
        for (int digit = 0; digit <= 9; digit++) {
            ItemStates x = new ItemStates();
            for (int sign = 0; sign <= 9; sign++) {
                boolean sound = sign == x.check(digit, 1);
                due.is("the check sign is wrong: " + digit + sign, x.copy(0, digit * 10L + sign, 1, 0), sound ? 1 : -1);
            }
        }
        Run.of(due, "the check sign is wrong, at both ends of the length", """
            copy 0 1 1 0 -> NONE; copy 0 9 1 0 -> NONE; copy 0 0 1 0 -> 1
            copy 0 9999999999991 12 0 -> NONE; copy 0 9999999999993 12 0 -> NONE
            copy 0 9999999999992 12 0 -> 2
            copy 0 18 0 0 -> NONE; copy 0 18 13 0 -> NONE; copy 0 18 LEAST 0 -> NONE; copy 0 18 MOST 0 -> NONE
            copy 0 109 1 0 -> NONE; copy 0 109 2 0 -> 3
            copy 0 MOST 12 0 -> NONE
            """);
    }

    /** The digits behind the sign, and the NONE of check, must not be taken for a check sign. */
    private static void belowZero(Due due) {
        ItemStates x = new ItemStates();
        for (long barcode = -1; barcode >= -100; barcode--) {
            due.is("a barcode below 0: " + barcode, x.copy(0, barcode, 1, 0), -1);
            due.is("a barcode below 0, of no digits: " + barcode, x.copy(0, barcode, 0, 0), -1);
            due.is("a barcode below 0, of two digits: " + barcode, x.copy(0, barcode, 2, 0), -1);
        }
        due.is("a barcode below 0: the least", x.copy(0, Long.MIN_VALUE, 12, 0), -1);
        due.is("none of them is there", x.count(3, -1), 0);
    }

    private static void thisBarcode(Due due) {
        Run.of(due, "a copy has this barcode (number and digits)", """
            copy 0 18 1 0 -> 1
            copy 0 18 1 0 -> NONE
            copy 3 18 1 7 -> NONE
            copy 0 18 2 0 -> 2
            copy 0 18 12 0 -> 3
            copy 0 18 2 0 -> NONE; copy 0 18 12 0 -> NONE
            copy 0 26 1 0 -> 4
            copy 0 18 1 0 -> NONE; copy 0 26 1 0 -> NONE
            weed 1 0 -> 1; weed 1 1 -> 2
            copy 0 18 1 0 -> NONE
            """);
        Run.of(due, "a refused barcode is not taken", """
            right 4 0 false -> true
            copy 0 18 1 4 -> RIGHT; copy 6 18 1 0 -> NONE; copy 0 18 1 10 -> NONE
            copy 0 18 1 0 -> 1
            """);
    }

    private static void eighty(Due due) {
        ItemStates x = House.with(79);
        due.is("or there are 80: the 79th is there", x.place(79), 0);
        due.is("or there are 80: a refused one does not count", x.copy(0, 1, 1, 0), -1);
        due.is("or there are 80: the 80th", x.copy(5, 18, 1, 9), 80);
        due.is("or there are 80: its home", x.home(80), 9);
        due.is("or there are 80: the 81st", x.copy(5, 26, 1, 9), -1);
        due.is("or there are 80: the 81st again", x.copy(0, 34, 1, 0), -1);
        due.is("or there are 80: no 81st", x.home(81), -1);
        due.is("or there are 80: withdrawn ones are copies still", x.weed(1, 0) + x.weed(1, 1), 3);
        due.is("or there are 80: so there is no room", x.copy(5, 26, 1, 9), -1);
        due.is("or there are 80: counted", x.count(3, -1) + x.count(7, -1), 80);
    }

    private static void noRight(Due due) {
        Run.of(due, "RIGHT if the home has no right for its type", """
            right 4 2 false -> true
            copy 2 18 1 4 -> RIGHT; copy 2 18 1 4 -> RIGHT
            count 3 NONE -> 0; place 1 -> NONE
            copy 1 18 1 4 -> 1
            copy 2 26 1 3 -> 2
            right 4 2 true -> false
            copy 2 34 1 4 -> 3
            right 4 2 false -> true
            copy 2 42 1 4 -> RIGHT
            home 3 -> 4
            """);
    }

    private static void noneBeforeRight(Due due) {
        Run.of(due, "NONE .. ; RIGHT: what is none such is told first", """
            copy 0 18 1 0 -> 1
            right 4 2 false -> true
            copy 2 19 1 4 -> NONE
            copy 2 18 1 4 -> NONE
            copy 2 26 0 4 -> NONE
            copy 2 26 1 4 -> RIGHT
            """);
        ItemStates x = House.with(80);
        x.right(4, 2, false);
        due.is("80 copies and no right", x.copy(2, 18, 1, 4), -1);
    }
}
