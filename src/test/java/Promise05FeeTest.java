public final class Promise05FeeTest {
    public static void main(String[] args) {
        Due due = new Due("promise 5");
        ItemStates x = new ItemStates();
        for (int type = 0; type <= 5; type++) {
            due.is("fee of " + type + " at first", x.fee(type, 100 + type), 0);
        }
        for (int type = 0; type <= 5; type++) {
            due.is("fee of " + type + " before", x.fee(type, 1000000), 100 + type);
        }
        due.is("the greatest", x.fee(0, 0), 1000000);
        due.is("the least", x.fee(0, 40), 0);
        int[] wrongSums = {-1, 1000001, Integer.MIN_VALUE, Integer.MAX_VALUE};
        for (int sum : wrongSums) {
            due.is("cents " + sum, x.fee(0, sum), -1);
            due.is("it stays", x.fee(0, 40), 40);
        }
        int[] noTypes = {-1, 6, Integer.MIN_VALUE, Integer.MAX_VALUE};
        for (int type : noTypes) {
            due.is("type " + type, x.fee(type, 1), -1);
        }
        due.end();
    }
}
