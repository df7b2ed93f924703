public final class Promise04RightTest {
    public static void main(String[] args) {
        Due due = new Due("promise 4");
        eachAlone(due);
        ItemStates x = new ItemStates();
        due.is("was on", x.right(9, 5, false), true);
        due.is("was off", x.right(9, 5, false), false);
        due.is("was off still", x.right(9, 5, true), false);
        due.is("was on again", x.right(9, 5, true), true);
        int[] noPlaces = {-1, 10, Integer.MIN_VALUE, Integer.MAX_VALUE};
        int[] noTypes = {-1, 6, Integer.MIN_VALUE, Integer.MAX_VALUE};
        for (int none : noPlaces) {
            due.is("place " + none, x.right(none, 0, true), false);
            due.is("place " + none + " again", x.right(none, 0, true), false);
        }
        for (int none : noTypes) {
            due.is("type " + none, x.right(1, none, false), false);
            due.is("type " + none + " again", x.right(1, none, true), false);
        }
        x.right(1, -1, false);
        x.right(0, 6, false);
        due.is("a wrong type takes no neighbour's right", x.right(0, 5, true), true);
        due.is("nor the next one's", x.right(1, 0, true), true);
        due.end();
    }

    private static void eachAlone(Due due) {
        for (int place = 0; place <= 9; place++) {
            for (int type = 0; type <= 5; type++) {
                ItemStates x = new ItemStates();
                x.right(place, type, false);
                int missing = 0;
                for (int p = 0; p <= 9; p++) {
                    for (int t = 0; t <= 5; t++) {
                        missing += x.right(p, t, true) ? 0 : 1;
                    }
                }
                due.is("rights gone with " + place + " " + type, missing, 1);
            }
        }
    }
}
