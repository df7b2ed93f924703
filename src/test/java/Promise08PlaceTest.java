public final class Promise08PlaceTest {
    public static void main(String[] args) {
        Due due = new Due("promise 8");
        ItemStates x = new ItemStates();
        House.add(x, 0, 1, 6);
        House.add(x, 0, 2, 3);
        due.is("at home", x.place(1), 6);
        x.act(1, 0, 9, 1);
        due.is("act 0 tells no place", x.place(1), 6);
        x.act(1, 1, 9, 2);
        x.act(1, 0, 8, 2);
        due.is("nor does lending", x.place(1), 6);
        x.act(1, 2, 1, 3);
        due.is("where it goes", x.place(1), 1);
        due.is("the other one stays", x.place(2), 3);
        x.act(1, 0, 0, 4);
        due.is("where it came", x.place(1), 1);
        due.is("its home stays", x.home(1), 6);
        x.act(1, 2, 6, 5);
        x.act(1, 6, 0, 6);
        due.is("lost on its way: as told before", x.place(1), 6);
        x.act(1, 0, 0, 6);
        due.is("found", x.place(1), 6);
        x.act(1, 2, 5, 3);
        due.is("late send", x.place(1), 6);
        x.weed(1, 0);
        x.weed(1, 1);
        due.is("withdrawn", x.place(1), 6);
        x.right(9, 0, false);
        x.act(2, 2, 9, 50);
        due.is("refused send", x.place(2), 3);
        int[] noCopies = {0, -1, 3, 81, Integer.MIN_VALUE, Integer.MAX_VALUE};
        for (int copy : noCopies) {
            due.is("copy " + copy, x.place(copy), -1);
        }
        due.end();
    }
}
