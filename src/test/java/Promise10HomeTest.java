public final class Promise10HomeTest {
    public static void main(String[] args) {
        Due due = new Due("promise 10");
        ItemStates x = new ItemStates();
        for (int home = 0; home <= 9; home++) {
            int copy = House.add(x, 0, home, home);
            due.is("home of copy " + copy, x.home(copy), home);
        }
        x.act(1, 2, 5, 1);
        x.act(1, 0, 0, 2);
        due.is("it does not float", x.home(1), 0);
        x.right(0, 0, false);
        due.is("without its home's right", x.home(1), 0);
        x.floats(1, true);
        x.act(1, 1, 0, 3);
        due.is("lent", x.home(1), 0);
        x.act(1, 0, 0, 4);
        due.is("floated", x.home(1), 5);
        x.weed(1, 0);
        x.weed(1, 1);
        due.is("withdrawn", x.home(1), 5);
        int[] noCopies = {0, -1, 11, 80, 81, Integer.MIN_VALUE, Integer.MAX_VALUE};
        for (int copy : noCopies) {
            due.is("copy " + copy, x.home(copy), -1);
        }
        due.end();
    }
}
