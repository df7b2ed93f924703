public final class Promise14CountTest {
    public static void main(String[] args) {
        Due due = new Due("promise 14");
        ItemStates x = new ItemStates();
        for (int i = 1; i <= 12; i++) {
            House.add(x, 0, i, i % 3);
        }
        due.is("all", x.count(3, -1), 12);
        for (int home = 0; home <= 9; home++) {
            due.is("of home " + home, x.count(3, home), home < 3 ? 4 : 0);
        }
        x.act(3, 0, 0, 10);
        x.act(6, 0, 0, 10);
        x.act(1, 0, 0, 10);
        x.act(1, 1, 0, 10);
        due.is("on shelf", x.count(0, -1), 2);
        due.is("on shelf of home 0", x.count(0, 0), 2);
        due.is("on shelf of home 1", x.count(0, 1), 0);
        due.is("on loan", x.count(1, -1), 1);
        due.is("on loan of home 1", x.count(1, 1), 1);
        due.is("processing", x.count(3, -1), 9);
        x.act(3, 2, 8, 11);
        due.is("on its way: by its home", x.count(2, 0), 1);
        due.is("on its way: not by where it goes", x.count(2, 8), 0);
        x.floats(3, true);
        x.act(3, 0, 0, 12);
        due.is("floated", x.count(0, 8), 1);
        due.is("not of the old home", x.count(0, 0), 1);
        x.act(6, 5, 0, 11);
        due.is("late acts do not count", x.count(5, -1), 0);
        x.weed(6, 0);
        x.weed(6, 1);
        due.is("withdrawn", x.count(7, 0), 1);
        int[] noStates = {-1, -2, 8, Integer.MIN_VALUE, Integer.MAX_VALUE};
        for (int state : noStates) {
            due.is("state " + state, x.count(state, -1), 0);
            due.is("state " + state + " of home 0", x.count(state, 0), 0);
        }
        int[] noHomes = {-2, -3, 10, Integer.MIN_VALUE, Integer.MAX_VALUE};
        for (int home : noHomes) {
            due.is("home " + home, x.count(3, home), 0);
        }
        due.end();
    }
}
