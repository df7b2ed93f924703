public final class Promise01NewObjectTest {
    public static void main(String[] args) {
        Due due = new Due("promise 1");
        ItemStates x = new ItemStates();
        for (int state = 0; state <= 7; state++) {
            due.is("count(" + state + ", NONE)", x.count(state, ItemStates.NONE), 0);
        }
        due.is("state(1, 0)", x.state(1, 0), -1);
        due.is("place(1)", x.place(1), -1);
        due.is("history(1, 0, 0)", x.history(1, 0, 0), -1);
        due.is("act(1, 0, 0, 0)", x.act(1, 0, 0, 0), -1);
        due.is("weed(1, 0)", x.weed(1, 0), -1);
        for (int place = 0; place <= 9; place++) {
            for (int type = 0; type <= 5; type++) {
                due.is("right " + place + " " + type, x.right(place, type, true), true);
            }
        }
        for (int type = 0; type <= 5; type++) {
            due.is("fee(" + type + ", 0)", x.fee(type, 0), 0);
        }
        ItemStates first = House.with(1);
        first.right(2, 3, false);
        first.fee(4, 9);
        first.act(1, 0, 0, 50);
        ItemStates second = House.with(1);
        due.is("right of another object", second.right(2, 3, true), true);
        due.is("fee of another object", second.fee(4, 0), 0);
        due.is("act before another object's day", second.act(1, 0, 0, 0), 0);
        due.is("late of the first act", second.history(1, 0, 1), 0);
        due.is("NONE", ItemStates.NONE, -1);
        due.is("STATE", ItemStates.STATE, -2);
        due.is("RIGHT", ItemStates.RIGHT, -3);
        due.end();
    }
}
