/** Makes the houses that the tests begin with. */
final class House {
    static final long LAST_DAY = 1000000000000L;

    private House() {
    }

    /** A house with so many copies of type 0 at home 0, all PROCESSING. */
    static ItemStates with(int copies) {
        ItemStates x = new ItemStates();
        for (int i = 1; i <= copies; i++) {
            add(x, 0, i, 0);
        }
        return x;
    }

    /** Adds a copy with the three digit barcode of a number. */
    static int add(ItemStates x, int type, int number, int home) {
        return x.copy(type, barcode(x, number, 3), 3, home);
    }

    static long barcode(ItemStates x, long number, int digits) {
        return number * 10 + x.check(number, digits);
    }

    /** A house whose copy 1 (type 0, home 0) was brought into a state by acts on a day. */
    static ItemStates inState(int state, long day) {
        ItemStates x = with(1);
        bring(x, state, day);
        return x;
    }

    static void bring(ItemStates x, int state, long day) {
        if (state == 3) {
            return;
        }
        x.act(1, 0, 0, day);
        if (state >= 1 && state <= 6) {
            x.act(1, state, 1, day);
        }
        if (state == 7) {
            x.weed(1, 0);
            x.weed(1, 1);
        }
    }
}
