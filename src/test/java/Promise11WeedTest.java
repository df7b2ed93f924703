public final class Promise11WeedTest {
    public static void main(String[] args) {
        Due due = new Due("promise 11");
        everyState(due);
        days(due);
        persons(due);
        inBetween(due);
        due.end();
    }

    private static void everyState(Due due) {
        for (int state = 0; state <= 7; state++) {
            boolean can = state == 0 || state == 3 || state == 6;
            ItemStates x = House.inState(state, 5);
            due.is("first in state " + state, x.weed(1, 10), can ? 1 : -2);
            due.is("not withdrawn by it, state " + state, x.count(state, -1), 1);
            due.is("the same in state " + state, x.weed(1, 10), -2);
            due.is("second in state " + state, x.weed(1, 11), can ? 2 : -2);
            due.is("withdrawn of state " + state, x.count(7, -1), can || state == 7 ? 1 : 0);
            due.is("third in state " + state, x.weed(1, 12), -2);
        }
    }

    private static void days(Due due) {
        ItemStates x = House.with(3);
        x.weed(1, 0);
        x.weed(1, 1);
        due.is("without acts: not on day 0", x.state(1, 0), 3);
        due.is("without acts: on day 1", x.state(1, 1), 7);
        due.is("entered", x.history(1, 0, 0), 7);
        due.is("not late", x.history(1, 0, 1), 0);
        due.is("the day counts: late", x.act(2, 0, 0, 0), 0);
        due.is("told as late", x.history(2, 0, 1), 1);
        due.is("and its own day is not", x.act(2, 0, 0, 1), 0);
        due.is("told as not late", x.history(2, 1, 1), 0);
        x.act(2, 1, 0, 40);
        x.weed(3, 0);
        x.weed(3, 1);
        due.is("by another copy's day: before", x.state(3, 40), 3);
        due.is("by another copy's day: on it", x.state(3, 41), 7);
        ItemStates zero = House.inState(0, 0);
        zero.weed(1, 0);
        zero.weed(1, 1);
        due.is("after day 0: on 0", zero.state(1, 0), 0);
        due.is("after day 0: on 1", zero.state(1, 1), 7);
        ItemStates late = House.with(2);
        late.act(1, 0, 0, 9);
        late.act(1, 6, 0, 3);
        late.weed(2, 0);
        late.weed(2, 1);
        due.is("late acts do not lower the day: before", late.state(2, 9), 3);
        due.is("late acts do not lower the day: on it", late.state(2, 10), 7);
    }

    private static void persons(Due due) {
        ItemStates x = House.with(2);
        int[] nobody = {-1, 100, Integer.MIN_VALUE, Integer.MAX_VALUE};
        for (int by : nobody) {
            due.is("person " + by, x.weed(1, by), -1);
        }
        int[] noCopies = {0, -1, 3, 81, Integer.MIN_VALUE, Integer.MAX_VALUE};
        for (int copy : noCopies) {
            due.is("copy " + copy, x.weed(copy, 0), -1);
        }
        due.is("nobody wanted it", x.weed(1, 99), 1);
        due.is("the other copy is not wanted", x.weed(2, 99), 1);
        due.is("nobody, in any state", x.weed(1, 100), -1);
        due.is("person 0", x.weed(1, 0), 2);
        due.is("nobody for a withdrawn one", x.weed(1, -1), -1);
        due.is("the other copy stays", x.count(3, -1), 1);
    }

    private static void inBetween(Due due) {
        ItemStates x = House.inState(0, 1);
        due.is("wanted", x.weed(1, 5), 1);
        x.act(1, 1, 0, 2);
        due.is("not on loan", x.weed(1, 6), -2);
        x.act(1, 0, 0, 3);
        due.is("the second one is the first now", x.weed(1, 6), 1);
        due.is("and the first one the second", x.weed(1, 5), 2);
        due.is("in the order of days", x.history(1, 3, 0), 7);
    }
}
