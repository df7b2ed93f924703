import java.util.List;

/**
 * A refused call changes nothing: of two houses with the same past one is told a call that is
 * refused, and all that can be asked of the two is compared.
 */
public final class RefusedEdgeTest {
    private static final int MIN = Integer.MIN_VALUE;
    private static final int MAX = Integer.MAX_VALUE;

    private interface Call {
        long on(ItemStates x);
    }

    private record Refused(String name, int answer, Call call) { }

    public static void main(String[] args) {
        Due due = new Due("refused, edges");
        for (Refused refused : refusedCopies()) {
            compare(due, refused);
        }
        for (Refused refused : refusedActs()) {
            compare(due, refused);
        }
        for (Refused refused : refusedOthers()) {
            compare(due, refused);
        }
        due.end();
    }

    private static List<Refused> refusedCopies() {
        return List.of(
            new Refused("copy of no type", -1, x -> x.copy(6, 91, 1, 0)),
            new Refused("copy of a type below 0", -1, x -> x.copy(-1, 91, 1, 0)),
            new Refused("copy at no home", -1, x -> x.copy(0, 91, 1, 10)),
            new Refused("copy at a home below 0", -1, x -> x.copy(0, 91, 1, -1)),
            new Refused("copy with a wrong sign", -1, x -> x.copy(0, 92, 1, 0)),
            new Refused("copy with a barcode that is taken", -1, x -> x.copy(0, 18, 1, 0)),
            new Refused("copy with too many digits", -1, x -> x.copy(0, 91, 13, 0)),
            new Refused("copy without a right", -3, x -> x.copy(2, 91, 1, 8)));
    }

    private static List<Refused> refusedActs() {
        return List.of(
            new Refused("act on no copy", -1, x -> x.act(5, 0, 0, 99)),
            new Refused("act on copy 0", -1, x -> x.act(0, 0, 0, 99)),
            new Refused("act 7", -1, x -> x.act(1, 7, 0, 99)),
            new Refused("act -1", -1, x -> x.act(1, -1, 0, 99)),
            new Refused("act below day 0", -1, x -> x.act(1, 1, 0, -1)),
            new Refused("act behind the last day", -1, x -> x.act(1, 1, 0, House.LAST_DAY + 1)),
            new Refused("send to no place", -1, x -> x.act(1, 2, 10, 99)),
            new Refused("send to where it stands", -1, x -> x.act(1, 2, 0, 99)),
            new Refused("send without a right", -3, x -> x.act(1, 2, 8, 99)),
            new Refused("late send without a right", -3, x -> x.act(1, 2, 8, 6)),
            new Refused("act in a wrong state", -2, x -> x.act(1, 0, 0, 99)),
            new Refused("late act in a wrong state", -2, x -> x.act(1, 4, 0, 5)),
            new Refused("arrival without a right", -3, x -> x.act(3, 0, 0, 99)),
            new Refused("act on a withdrawn one", -2, x -> x.act(4, 0, 0, 99)));
    }

    private static List<Refused> refusedOthers() {
        return List.of(
            new Refused("right at no place", 0, x -> x.right(10, 0, false) ? 1 : 0),
            new Refused("right for no type", 0, x -> x.right(0, 6, false) ? 1 : 0),
            new Refused("fee of no type", -1, x -> x.fee(6, 1)),
            new Refused("fee below 0", -1, x -> x.fee(2, -1)),
            new Refused("fee too great", -1, x -> x.fee(2, 1000001)),
            new Refused("floats of no copy", 0, x -> x.floats(5, true) ? 1 : 0),
            new Refused("weed of no copy", -1, x -> x.weed(5, 9)),
            new Refused("weed by nobody", -1, x -> x.weed(1, 100)),
            new Refused("weed by the same", -2, x -> x.weed(1, 7)),
            new Refused("weed in a wrong state", -2, x -> x.weed(2, 9)),
            new Refused("weed of a withdrawn one", -2, x -> x.weed(4, 9)),
            new Refused("state of no copy", -1, x -> x.state(MIN, 0)),
            new Refused("place of no copy", -1, x -> x.place(MAX)),
            new Refused("home of no copy", -1, x -> x.home(MIN)),
            new Refused("owed of no copy", -1, x -> x.owed(MAX)),
            new Refused("history of no act", -1, x -> x.history(1, MAX, 0)),
            new Refused("count of no state", 0, x -> x.count(8, -1)),
            new Refused("check of no digits", -1, x -> x.check(1, 0)));
    }

    private static void compare(Due due, Refused refused) {
        ItemStates told = past();
        due.is(refused.name, refused.call.on(told), refused.answer);
        String want = all(past());
        String got = all(told);
        due.is(refused.name + " changed " + got + " of " + want, got.equals(want), true);
    }

    /** Copy 1 is on shelf and wanted by 7, 2 on loan, 3 on its way to a place without right, 4 withdrawn. */
    private static ItemStates past() {
        ItemStates x = new ItemStates();
        x.fee(2, 70);
        x.copy(2, 18, 1, 0);
        x.copy(2, 26, 1, 1);
        x.copy(2, 34, 1, 2);
        x.copy(2, 42, 1, 3);
        x.act(1, 0, 0, 3);
        x.act(1, 1, 0, 5);
        x.act(2, 0, 0, 6);
        x.act(2, 1, 0, 6);
        x.act(1, 6, 0, 7);
        x.act(1, 0, 0, 8);
        x.floats(3, true);
        x.act(3, 2, 8, 9);
        x.act(1, 0, 0, 6);
        x.right(8, 2, false);
        x.weed(4, 1);
        x.weed(4, 2);
        x.weed(1, 7);
        return x;
    }

    private static String all(ItemStates x) {
        StringBuilder all = new StringBuilder();
        for (int copy = 1; copy <= 5; copy++) {
            all.append(" | ").append(x.place(copy)).append(x.home(copy)).append(x.owed(copy)).append(' ');
            for (long day = 4; day <= 10; day++) {
                all.append(x.state(copy, day));
            }
            all.append(x.state(copy, Long.MAX_VALUE)).append(' ');
            for (int i = 0; i < 7; i++) {
                all.append(x.history(copy, i, 0)).append(x.history(copy, i, 1));
            }
        }
        for (int state = 0; state <= 7; state++) {
            all.append(x.count(state, -1)).append(x.count(state, 0));
        }
        return all.append(settings(x)).append(next(x)).toString();
    }

    private static String settings(ItemStates x) {
        StringBuilder all = new StringBuilder();
        for (int i = 0; i < 60; i++) {
            all.append(x.right(i / 6, i % 6, true) ? "" : " no right " + i);
        }
        for (int type = 0; type <= 5; type++) {
            all.append(' ').append(x.fee(type, 0));
        }
        for (int copy = 1; copy <= 4; copy++) {
            all.append(x.floats(copy, false));
        }
        return all.toString();
    }

    /** Who wants it, which day is the greatest, which number is the next, which barcode is free. */
    private static String next(ItemStates x) {
        StringBuilder all = new StringBuilder();
        all.append(' ').append(x.weed(1, 7)).append(x.weed(1, 9));
        all.append(x.state(1, 11)).append(x.state(1, 12));
        all.append(x.copy(0, 91, 1, 0)).append(x.copy(0, 83, 1, 0));
        all.append(x.act(5, 0, 0, 11)).append(x.history(5, 0, 1));
        return all.toString();
    }
}
