public final class Promise06ActTest {
    private static final String[] FOLLOWS = {"123456", "04", "03", "06", "0", "03", "012345"};

    public static void main(String[] args) {
        Due due = new Due("promise 6");
        everyActInEveryState(due);
        everyLateActInEveryState(due);
        none(due);
        sendTo(due);
        arrive(due);
        late(due);
        lateRights(due);
        orderOfRefusals(due);
        wants(due);
        due.end();
    }

    private static void everyActInEveryState(Due due) {
        for (int state = 0; state <= 7; state++) {
            for (int kind = 0; kind <= 6; kind++) {
                ItemStates x = House.inState(state, 5);
                int want = FOLLOWS[kind].indexOf('0' + state) >= 0 ? kind : -2;
                due.is("act " + kind + " in state " + state, x.act(1, kind, 2, 9), want);
                int now = want == kind ? kind : state;
                due.is("state after act " + kind + " in state " + state, x.state(1, 9), now);
                due.is("counted after act " + kind + " in state " + state, x.count(now, -1), 1);
            }
        }
    }

    private static void everyLateActInEveryState(Due due) {
        for (int state = 0; state <= 7; state++) {
            for (int kind = 0; kind <= 6; kind++) {
                ItemStates x = House.inState(state, 5);
                House.add(x, 0, 900, 0);
                x.act(2, 0, 0, 20);
                int want = FOLLOWS[kind].indexOf('0' + state) >= 0 ? kind : -2;
                due.is("late act " + kind + " in state " + state, x.act(1, kind, 2, 10), want);
                int then = want == kind ? kind : state;
                due.is("state then of act " + kind + " in state " + state, x.state(1, 10), then);
                due.is("state now of act " + kind + " in state " + state,
                    x.count(state, -1), state == 0 ? 2 : 1);
            }
        }
    }

    private static void none(Due due) {
        ItemStates x = House.with(1);
        int[] noCopies = {0, -1, 2, 80, 81, Integer.MIN_VALUE, Integer.MAX_VALUE};
        for (int copy : noCopies) {
            due.is("copy " + copy, x.act(copy, 0, 0, 1), -1);
        }
        int[] noKinds = {-1, 7, Integer.MIN_VALUE, Integer.MAX_VALUE};
        for (int kind : noKinds) {
            due.is("kind " + kind, x.act(1, kind, 0, 1), -1);
        }
        long[] noDays = {-1, House.LAST_DAY + 1, Long.MIN_VALUE, Long.MAX_VALUE};
        for (long day : noDays) {
            due.is("day " + day, x.act(1, 0, 0, day), -1);
        }
        due.is("nothing was entered", x.history(1, 0, 0), -1);
        due.is("day 0", x.act(1, 0, Integer.MIN_VALUE, 0), 0);
        due.is("the last day", x.act(1, 1, Integer.MAX_VALUE, House.LAST_DAY), 1);
        due.is("the last day once more", x.act(1, 0, 99, House.LAST_DAY), 0);
        due.is("none of them late", x.history(1, 2, 1), 0);
    }

    private static void sendTo(Due due) {
        ItemStates x = House.with(1);
        int[] noPlaces = {-1, 10, Integer.MIN_VALUE, Integer.MAX_VALUE};
        for (int place : noPlaces) {
            due.is("send to " + place, x.act(1, 2, place, 1), -1);
        }
        due.is("send to where it stands", x.act(1, 2, 0, 1), -1);
        x.right(7, 0, false);
        due.is("send to a place without the right", x.act(1, 2, 7, 1), -3);
        x.right(9, 1, false);
        due.is("another type's right", x.act(1, 2, 9, 1), 2);
        due.is("send on to where it goes", x.act(1, 2, 9, 2), -1);
        due.is("send on elsewhere", x.act(1, 2, 0, 2), -2);
        x.act(1, 0, 0, 3);
        due.is("send to where it stands now", x.act(1, 2, 9, 4), -1);
        due.is("send home", x.act(1, 2, 0, 4), 2);
    }

    private static void arrive(Due due) {
        ItemStates x = House.with(1);
        x.act(1, 2, 4, 5);
        x.right(4, 0, false);
        due.is("arrive without the right", x.act(1, 0, 0, 6), -3);
        due.is("it is on its way still", x.count(2, -1), 1);
        due.is("nothing was entered", x.history(1, 1, 0), -1);
        x.right(0, 0, false);
        x.right(4, 0, true);
        due.is("the old place's right does not matter", x.act(1, 0, 4, 6), 0);
        x.right(4, 0, false);
        due.is("lend without the right", x.act(1, 1, 0, 6), 1);
        due.is("back without the right", x.act(1, 0, 0, 6), 0);
        x.act(1, 6, 0, 7);
        due.is("found without the right", x.act(1, 0, 0, 7), 0);
        x.right(5, 0, true);
        x.act(1, 2, 5, 8);
        x.right(5, 0, false);
        due.is("lost on its way without the right", x.act(1, 6, 0, 9), 6);
        due.is("found after that", x.act(1, 0, 0, 9), 0);
    }

    private static void late(Due due) {
        ItemStates x = House.with(2);
        x.act(1, 0, 0, 5);
        x.act(2, 0, 0, 20);
        due.is("the same day is not late", x.act(2, 1, 0, 20), 1);
        due.is("late by another copy's act", x.act(1, 1, 0, 19), 1);
        due.is("told as late", x.history(1, 1, 1), 1);
        due.is("now as it was", x.count(0, -1), 1);
        due.is("then as entered", x.state(1, 20), 1);
        due.is("late: by the state of that day", x.act(1, 1, 0, 19), -2);
        due.is("now: by the state of now", x.act(1, 1, 0, 20), 1);
        due.is("not late", x.history(1, 2, 1), 0);
        due.is("before the first one: of PROCESSING", x.act(1, 5, 0, 4), 5);
        due.is("before the first one: of BINDERY", x.act(1, 5, 0, 4), -2);
        due.is("a late act does not raise the day", x.act(2, 0, 0, 20), 0);
        due.is("late send", x.act(1, 2, 6, 5), 2);
        due.is("it does not move the copy", x.place(1), 0);
        due.is("a refused act does not raise the day", x.act(2, 0, 0, 500), -2);
        due.is("the day after it is not late", x.act(2, 1, 0, 21), 1);
        due.is("told as not late", x.history(2, 3, 1), 0);

        ItemStates gone = House.inState(7, 5);
        due.is("late before the withdrawal", gone.act(1, 1, 0, 5), 1);
        due.is("withdrawn still", gone.count(7, -1), 1);
        due.is("withdrawn on its day", gone.state(1, 6), 7);
        due.is("not after it", gone.act(1, 0, 0, 6), -2);
    }

    private static void lateRights(Due due) {
        ItemStates x = House.with(2);
        x.act(2, 0, 0, 20);
        x.right(3, 0, false);
        due.is("late send without the right", x.act(1, 2, 3, 10), -3);
        due.is("late send to where it stands now", x.act(1, 2, 0, 10), -1);
        due.is("late send", x.act(1, 2, 4, 10), 2);
        x.right(4, 0, false);
        due.is("late arrival needs no right", x.act(1, 0, 0, 11), 0);

        ItemStates y = House.with(2);
        y.act(1, 2, 4, 20);
        y.right(4, 0, false);
        due.is("late while on its way needs no right", y.act(1, 5, 0, 10), 5);
        due.is("late to shelf while on its way", y.act(1, 0, 0, 10), 0);
        due.is("late send to where it goes", y.act(1, 2, 4, 10), -1);
        due.is("late send to where it came from", y.act(1, 2, 0, 10), 2);
        due.is("it goes there still", y.place(1), 4);
        due.is("arrival now needs it", y.act(1, 0, 0, 20), -3);
    }

    private static void orderOfRefusals(Due due) {
        ItemStates x = House.inState(1, 5);
        x.right(3, 0, false);
        due.is("no such place before the state", x.act(1, 2, 10, 6), -1);
        due.is("its own place before the state", x.act(1, 2, 0, 6), -1);
        due.is("the state before the right", x.act(1, 2, 3, 6), -2);
        x.act(1, 0, 0, 7);
        x.right(0, 0, false);
        due.is("its own place before the right", x.act(1, 2, 0, 8), -1);
    }

    private static void wants(Due due) {
        ItemStates x = House.with(2);
        x.act(2, 0, 0, 20);
        due.is("one wants it", x.weed(1, 7), 1);
        due.is("a refused act", x.act(1, 1, 0, 21), -2);
        due.is("is wanted still", x.weed(1, 7), -2);
        due.is("a late act", x.act(1, 0, 0, 10), 0);
        due.is("is wanted still after it", x.weed(1, 7), -2);
        due.is("an act on another copy", x.act(2, 1, 0, 21), 1);
        due.is("is wanted still after that", x.weed(1, 7), -2);
        due.is("an act", x.act(1, 6, 0, 21), 6);
        due.is("is wanted no more", x.weed(1, 7), 1);
        due.is("now by two", x.weed(1, 8), 2);
    }
}
