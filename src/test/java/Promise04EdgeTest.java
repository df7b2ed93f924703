/** The edges of promise 4: right. */
public final class Promise04EdgeTest {
    public static void main(String[] args) {
        Due due = new Due("promise 4, edges");
        whatItWas(due);
        noneSuch(due);
        neighbours(due);
        whatARightIsFor(due);
        due.end();
    }

    private static void whatItWas(Due due) {
        for (int place = 0; place <= 9; place += 9) {
            for (int type = 0; type <= 5; type += 5) {
                String right = "right " + place + " " + type + " ";
                Run.of(due, "what it was", right + "true -> true;" + right + "true -> true;"
                    + right + "false -> true;" + right + "false -> false;" + right + "false -> false;"
                    + right + "true -> false;" + right + "true -> true;" + right + "false -> true;"
                    + right + "true -> false");
            }
        }
    }

    private static void noneSuch(Due due) {
        Run.of(due, "false if there is none such", """
            right -1 0 true -> false; right -1 0 true -> false; right -1 0 false -> false
            right 10 0 true -> false; right 10 0 true -> false; right 10 5 false -> false
            right 0 -1 true -> false; right 0 -1 true -> false; right 9 -1 false -> false
            right 0 6 true -> false; right 0 6 true -> false; right 9 6 false -> false
            right LEAST 0 true -> false; right MOST 0 true -> false
            right 0 LEAST true -> false; right 0 MOST true -> false
            right LEAST LEAST false -> false; right MOST MOST false -> false
            right -1 6 true -> false; right 10 -1 true -> false
            """);
    }

    /** Wrong places and types, told beside each right: not one of the sixty is gone by them. */
    private static void neighbours(Due due) {
        ItemStates x = new ItemStates();
        for (int place = -1; place <= 10; place++) {
            x.right(place, -1, false);
            x.right(place, 6, false);
        }
        for (int type = -1; type <= 6; type++) {
            x.right(-1, type, false);
            x.right(10, type, false);
        }
        for (int place = 0; place <= 9; place++) {
            for (int type = 0; type <= 5; type++) {
                due.is("by none such no right goes: " + place + " " + type, x.right(place, type, false), true);
            }
        }
        for (int place = -1; place <= 10; place++) {
            x.right(place, -1, true);
            x.right(place, 6, true);
        }
        for (int place = 0; place <= 9; place++) {
            for (int type = 0; type <= 5; type++) {
                due.is("by none such no right comes: " + place + " " + type, x.right(place, type, false), false);
            }
        }
    }

    private static void whatARightIsFor(Due due) {
        Run.of(due, "A place has the right for a type, or not", """
            right 9 5 false -> true
            copy 5 18 1 9 -> RIGHT; copy 4 18 1 9 -> 1; copy 5 26 1 8 -> 2
            act 2 2 9 1 -> RIGHT
            right 9 5 true -> false
            act 2 2 9 1 -> 2
            copy 5 34 1 9 -> 3
            right 9 5 false -> true
            home 3 -> 9; place 3 -> 9; state 3 1 -> 3
            act 3 0 0 1 -> 0
            """);
    }
}
