public final class Promise09FloatsTest {
    public static void main(String[] args) {
        Due due = new Due("promise 9");
        ItemStates x = House.with(2);
        due.is("at first", x.floats(1, true), false);
        due.is("told to", x.floats(1, true), true);
        due.is("the other one", x.floats(2, false), false);
        x.act(1, 2, 4, 5);
        due.is("home on its way", x.home(1), 0);
        x.act(1, 0, 0, 6);
        due.is("home where it came", x.home(1), 4);
        x.act(2, 2, 4, 6);
        x.act(2, 0, 0, 6);
        due.is("the other one goes home", x.home(2), 0);
        due.is("told to later", x.floats(2, true), false);
        due.is("that alone changes nothing", x.home(2), 0);
        x.act(2, 1, 0, 7);
        due.is("nor does lending", x.home(2), 0);
        due.is("late act 0 before its acts", x.act(2, 0, 0, 5), 0);
        due.is("late miss", x.act(2, 6, 0, 6), 6);
        due.is("late act 0 that went", x.act(2, 0, 0, 6), 0);
        due.is("does not change it", x.home(2), 0);
        x.act(2, 0, 0, 8);
        due.is("each act 0 does", x.home(2), 4);
        due.is("told not to", x.floats(2, false), true);
        due.is("that alone changes nothing either", x.home(2), 4);
        x.act(2, 2, 9, 9);
        x.act(2, 0, 0, 9);
        due.is("it stays so", x.home(2), 4);
        x.act(1, 2, 8, 9);
        x.right(8, 0, false);
        due.is("refused act 0", x.act(1, 0, 0, 9), -3);
        due.is("home of the refused", x.home(1), 4);
        due.is("floats through all", x.floats(1, true), true);
        int[] noCopies = {0, -1, 3, 81, Integer.MIN_VALUE, Integer.MAX_VALUE};
        for (int copy : noCopies) {
            due.is("copy " + copy, x.floats(copy, true), false);
            due.is("copy " + copy + " again", x.floats(copy, true), false);
        }
        due.end();
    }
}
