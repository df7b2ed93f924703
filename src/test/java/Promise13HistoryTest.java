public final class Promise13HistoryTest {
    public static void main(String[] args) {
        Due due = new Due("promise 13");
        ItemStates x = House.with(2);
        due.is("nothing yet", x.history(1, 0, 0), -1);
        due.is("nothing yet, late", x.history(1, 0, 1), -1);
        x.act(1, 0, 0, 10);
        x.act(1, 4, 0, 20);
        x.act(1, 1, 0, 20);
        x.act(1, 1, 0, 30);
        rows(due, x, 1, "after three acts", "00 40 10");
        x.act(2, 5, 0, 40);
        rows(due, x, 1, "after another's act", "00 40 10");
        rows(due, x, 2, "the other one", "50");
        x.act(1, 6, 0, 15);
        rows(due, x, 1, "late, between", "00 61 40 10");
        x.act(1, 6, 0, 20);
        rows(due, x, 1, "late, behind its day", "00 61 40 10 61");
        x.act(1, 5, 0, 0);
        rows(due, x, 1, "late, before all", "51 00 61 40 10 61");
        x.act(1, 0, 0, 0);
        rows(due, x, 1, "late, two of day 0", "51 01 00 61 40 10 61");
        x.act(1, 3, 0, 35);
        rows(due, x, 1, "late, behind all", "51 01 00 61 40 10 61 31");
        x.act(1, 0, 0, 40);
        rows(due, x, 1, "not late, behind all", "51 01 00 61 40 10 61 31 00");
        x.weed(1, 0);
        x.weed(1, 1);
        rows(due, x, 1, "withdrawn", "51 01 00 61 40 10 61 31 00 70");
        int[] noWhats = {-1, 2, Integer.MIN_VALUE, Integer.MAX_VALUE};
        for (int what : noWhats) {
            due.is("what " + what, x.history(1, 0, what), -1);
        }
        int[] noIndexes = {-1, 10, 511, 512, Integer.MIN_VALUE, Integer.MAX_VALUE};
        for (int i : noIndexes) {
            due.is("index " + i, x.history(1, i, 0), -1);
        }
        int[] noCopies = {0, -1, 3, 81, Integer.MIN_VALUE, Integer.MAX_VALUE};
        for (int copy : noCopies) {
            due.is("copy " + copy, x.history(copy, 0, 0), -1);
        }
        many(due);
        due.end();
    }

    /** Each row is the state and the sign of being late. */
    private static void rows(Due due, ItemStates x, int copy, String when, String want) {
        String[] rows = want.split(" ");
        for (int i = 0; i < rows.length; i++) {
            due.is(when + ": state of " + i, x.history(copy, i, 0), rows[i].charAt(0) - '0');
            due.is(when + ": late of " + i, x.history(copy, i, 1), rows[i].charAt(1) - '0');
        }
        due.is(when + ": no more", x.history(copy, rows.length, 0), -1);
    }

    private static void many(Due due) {
        ItemStates x = House.with(1);
        for (int i = 0; i < 508; i++) {
            due.is("act " + i, x.act(1, i % 2, 0, i), i % 2);
        }
        due.is("the 508th", x.history(1, 507, 0), 1);
        due.is("none behind it", x.history(1, 508, 0), -1);
    }
}
