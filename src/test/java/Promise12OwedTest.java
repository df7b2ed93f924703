public final class Promise12OwedTest {
    public static void main(String[] args) {
        Due due = new Due("promise 12");
        everyState(due);
        ItemStates x = new ItemStates();
        House.add(x, 2, 1, 0);
        House.add(x, 3, 2, 0);
        x.fee(2, 300);
        due.is("at first", x.owed(1), 0);
        lose(x, 1, 10);
        due.is("lost", x.owed(1), 300);
        x.fee(2, 50);
        due.is("a later fee", x.owed(1), 300);
        x.act(1, 0, 0, 12);
        due.is("found", x.owed(1), 300);
        lose(x, 1, 13);
        due.is("lost again", x.owed(1), 350);
        lose(x, 2, 20);
        due.is("a type without a fee", x.owed(2), 0);
        x.act(1, 0, 0, 30);
        x.act(1, 1, 0, 40);
        x.act(2, 0, 0, 50);
        due.is("late miss of a loan", x.act(1, 6, 0, 45), 6);
        due.is("late: no fee", x.owed(1), 350);
        due.is("lost now", x.act(1, 6, 0, 50), 6);
        due.is("the third loss", x.owed(1), 400);
        x.weed(1, 0);
        x.weed(1, 1);
        due.is("withdrawn", x.owed(1), 400);
        int[] noCopies = {0, -1, 3, 81, Integer.MIN_VALUE, Integer.MAX_VALUE};
        for (int copy : noCopies) {
            due.is("copy " + copy, x.owed(copy), -1);
        }
        many(due);
        due.end();
    }

    private static void everyState(Due due) {
        for (int state = 0; state <= 7; state++) {
            ItemStates x = House.inState(state, 1);
            x.fee(0, 9);
            x.act(1, 6, 0, 2);
            due.is("missing of state " + state, x.owed(1), state == 1 ? 9 : 0);
        }
    }

    private static void lose(ItemStates x, int copy, long day) {
        x.act(copy, 0, 0, day);
        x.act(copy, 1, 0, day);
        x.act(copy, 6, 0, day + 1);
    }

    private static void many(Due due) {
        ItemStates x = House.with(1);
        x.fee(0, 1000000);
        for (int i = 0; i < 160; i++) {
            lose(x, 1, i);
        }
        due.is("160 losses", x.owed(1), 160000000);
    }
}
