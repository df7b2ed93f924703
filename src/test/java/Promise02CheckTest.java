public final class Promise02CheckTest {
    public static void main(String[] args) {
        Due due = new Due("promise 2");
        ItemStates x = new ItemStates();
        due.is("the known one", x.check(7992739871L, 10), 3);
        int[] single = {0, 8, 6, 4, 2, 9, 7, 5, 3, 1};
        for (int digit = 0; digit <= 9; digit++) {
            due.is("check(" + digit + ", 1)", x.check(digit, 1), single[digit]);
        }
        due.is("a digit not doubled", x.check(50, 2), 5);
        due.is("leading zeros", x.check(5, 12), 9);
        due.is("zero of twelve", x.check(0, 12), 0);
        due.is("the greatest of twelve", x.check(999999999999L, 12), 2);
        byAnotherWay(due, x);
        due.is("digits 0", x.check(0, 0), -1);
        due.is("digits 13", x.check(0, 13), -1);
        due.is("digits least", x.check(0, Integer.MIN_VALUE), -1);
        due.is("digits most", x.check(0, Integer.MAX_VALUE), -1);
        due.is("one digit too many", x.check(10, 1), -1);
        due.is("thirteen digits", x.check(1000000000000L, 12), -1);
        due.is("the greatest long", x.check(Long.MAX_VALUE, 12), -1);
        due.is("below 0", x.check(-1, 1), -1);
        due.is("the least long", x.check(Long.MIN_VALUE, 12), -1);
        due.end();
    }

    private static void byAnotherWay(Due due, ItemStates x) {
        for (long number = 0; number < 1000000000000L; number = number * 3 + 7) {
            String text = Long.toString(number);
            for (int digits = text.length(); digits <= 12; digits++) {
                due.is("check(" + number + ", " + digits + ")", x.check(number, digits), sign(text));
            }
        }
    }

    private static int sign(String text) {
        String all = "";
        for (int i = 0; i < text.length(); i++) {
            int digit = text.charAt(text.length() - 1 - i) - '0';
            all += i % 2 == 0 ? 2 * digit : digit;
        }
        int sum = 0;
        for (char c : all.toCharArray()) {
            sum += c - '0';
        }
        int sign = 0;
        while ((sum + sign) % 10 != 0) {
            sign++;
        }
        return sign;
    }
}
