public final class Promise07StateTest {
    public static void main(String[] args) {
        Due due = new Due("promise 7");
        ItemStates x = House.with(2);
        due.is("at first", x.state(1, 0), 3);
        due.is("at first, ever", x.state(1, Long.MAX_VALUE), 3);
        due.is("at first, never", x.state(1, Long.MIN_VALUE), 3);
        x.act(1, 0, 0, 10);
        x.act(1, 4, 0, 20);
        x.act(1, 1, 0, 20);
        x.act(1, 6, 0, 30);
        due.is("the day before", x.state(1, 9), 3);
        due.is("below 0", x.state(1, -5), 3);
        due.is("the day itself", x.state(1, 10), 0);
        due.is("between", x.state(1, 19), 0);
        due.is("the last of a day", x.state(1, 20), 1);
        due.is("the day before the last", x.state(1, 29), 1);
        due.is("the last", x.state(1, 30), 6);
        due.is("after all", x.state(1, Long.MAX_VALUE), 6);
        due.is("another copy", x.state(2, 30), 3);
        x.act(1, 2, 5, 15);
        due.is("before the late one", x.state(1, 14), 0);
        due.is("by the late one", x.state(1, 15), 2);
        due.is("by it until the next", x.state(1, 19), 2);
        due.is("not behind the next", x.state(1, 20), 1);
        x.act(1, 0, 0, 20);
        due.is("late, behind those of its day", x.state(1, 20), 0);
        due.is("until the next", x.state(1, 29), 0);
        due.is("the last stays", x.state(1, 30), 6);
        x.act(2, 0, 0, 40);
        x.act(1, 3, 0, 35);
        due.is("late, behind all", x.state(1, 40), 3);
        due.is("though it is missing now", x.count(6, -1), 1);
        int[] noCopies = {0, -1, 3, 81, Integer.MIN_VALUE, Integer.MAX_VALUE};
        for (int copy : noCopies) {
            due.is("copy " + copy, x.state(copy, 30), -1);
        }
        beyondTheLastDay(due);
        due.end();
    }

    private static void beyondTheLastDay(Due due) {
        ItemStates x = House.inState(0, House.LAST_DAY);
        x.weed(1, 0);
        x.weed(1, 1);
        due.is("on the last day", x.state(1, House.LAST_DAY), 0);
        due.is("on the day behind it", x.state(1, House.LAST_DAY + 1), 7);
    }
}
