/** The edges of promise 2: check. */
public final class Promise02EdgeTest {
    public static void main(String[] args) {
        Due due = new Due("promise 2, edges");
        notOneToTwelve(due);
        hasMore(due);
        below0(due);
        greatestAndSmallest(due);
        due.end();
    }

    private static void notOneToTwelve(Due due) {
        Run.of(due, "NONE if these are not 1 .. 12", """
            check 0 -1 -> NONE; check 0 0 -> NONE; check 0 1 -> 0; check 0 2 -> 0
            check 0 11 -> 0; check 0 12 -> 0; check 0 13 -> NONE; check 0 14 -> NONE
            check 5 0 -> NONE; check 5 1 -> 9; check 5 12 -> 9; check 5 13 -> NONE
            check 1234567890123 13 -> NONE
            check 0 LEAST -> NONE; check 0 MOST -> NONE; check 5 LEAST -> NONE; check 5 MOST -> NONE
            """);
    }

    /** Of each length: the greatest number that has so many digits, and the smallest one that has more. */
    private static void hasMore(Due due) {
        ItemStates x = new ItemStates();
        int[] signsOfNines = {1, 2, 3, 4, 5, 6, 7, 8, 9, 0, 1, 2};
        long power = 1;
        for (int digits = 1; digits <= 12; digits++) {
            power *= 10;
            due.is("check " + (power - 1) + " " + digits, x.check(power - 1, digits), signsOfNines[digits - 1]);
            due.is("or the number has more: check " + power + " " + digits, x.check(power, digits), -1);
            due.is("check " + power + " " + (digits + 1), x.check(power, digits + 1),
                digits == 12 ? -1 : digits % 2 == 0 ? 8 : 9);
        }
    }

    private static void below0(Due due) {
        ItemStates x = new ItemStates();
        for (int digits = 0; digits <= 13; digits++) {
            for (long number = -1; number >= -20; number--) {
                due.is("or is below 0: check " + number + " " + digits, x.check(number, digits), -1);
            }
        }
        due.is("or is below 0: 0 is not", x.check(0, 1), 0);
    }

    private static void greatestAndSmallest(Due due) {
        Run.of(due, "check of the greatest and the smallest long", """
            check MOST 1 -> NONE; check MOST 12 -> NONE; check MOST 13 -> NONE; check MOST MOST -> NONE
            check LEAST 1 -> NONE; check LEAST 12 -> NONE; check LEAST 13 -> NONE; check LEAST LEAST -> NONE
            check MOST LEAST -> NONE; check LEAST MOST -> NONE
            check 2147483648 10 -> 9; check 4294967296 10 -> 0; check 4294967296 9 -> NONE
            """);
    }
}
