/** "An object is used for at most 512 calls": the last of them is answered as the first. */
public final class CallsEdgeTest {
    private static final int CALLS = 512;

    public static void main(String[] args) {
        Due due = new Due("512 calls, edges");
        actsInOrder(due);
        lateActs(due);
        weeds(due);
        due.end();
    }

    private static void actsInOrder(Due due) {
        ItemStates x = new ItemStates();
        due.is("call 1", x.copy(0, 18, 1, 0), 1);
        for (int call = 2; call <= CALLS; call++) {
            due.is("in order, call " + call, x.act(1, call % 2, 0, call), call % 2);
        }
    }

    /** The first act is the one of the greatest day, so that all others are entered before it. */
    private static void lateActs(Due due) {
        ItemStates x = new ItemStates();
        due.is("call 1", x.copy(0, 18, 1, 0), 1);
        due.is("call 2", x.act(1, 6, 0, House.LAST_DAY), 6);
        for (int call = 3; call <= CALLS - 2; call++) {
            int kind = call % 2 == 1 ? 0 : 6;
            due.is("late, call " + call, x.act(1, kind, 0, call), kind);
        }
        int last = CALLS - 4;
        due.is("late, call 511: the last late one", x.history(1, last - 1, 1), 1);
        due.is("late, call 512: the one of the last day", x.history(1, last, 1), 0);
    }

    private static void weeds(Due due) {
        ItemStates x = House.with(80);
        for (int copy = 1; copy <= 80; copy++) {
            due.is("first for " + copy, x.weed(copy, copy), 1);
            due.is("second for " + copy, x.weed(copy, 0), 2);
            due.is("day of " + copy, x.state(copy, copy), 7);
            due.is("the day before, of " + copy, x.state(copy, copy - 1), 3);
        }
        due.is("all 80 withdrawn", x.count(7, -1), 80);
    }
}
