import java.util.Random;

/** Long runs of calls, ordinary and wrong ones mixed, against the replay of the document. */
public final class ReplayTest {
    private static final int RUNS = 400;
    private static final int CALLS = 512;
    private static final int[] ODD = {-3, -2, -1, 100, Integer.MIN_VALUE, Integer.MAX_VALUE};
    private static final long[] ODD_DAYS = {
        -1, 0, 1000000000000L, 1000000000001L, Long.MIN_VALUE, Long.MAX_VALUE};

    private final Due due;
    private final Random random;
    private final ItemStates x = new ItemStates();
    private final Replay model = new Replay();
    private final int copies;
    private long today = 0;

    private ReplayTest(Due due, int seed) {
        this.due = due;
        this.random = new Random(seed);
        this.copies = seed % 10 == 0 ? 90 : 1 + seed % 7;
    }

    public static void main(String[] args) {
        Due due = new Due("replay");
        for (int seed = 1; seed <= RUNS; seed++) {
            ReplayTest run = new ReplayTest(due, seed);
            for (int call = 0; call < CALLS; call++) {
                run.call(seed, call);
            }
        }
        due.end();
    }

    private void call(int seed, int call) {
        int dice = call < copies ? 0 : random.nextInt(100);
        String at = "seed " + seed + " call " + call + ": ";
        if (dice < 3) {
            add(at);
        } else if (dice < 50) {
            act(at);
        } else if (dice < 62) {
            settings(at, dice);
        } else if (dice < 72) {
            int copy = copy();
            int by = pick(3);
            due.is(at + "weed " + copy + " " + by, x.weed(copy, by), model.weed(copy, by));
        } else {
            ask(at, dice);
        }
    }

    private void add(String at) {
        int digits = random.nextInt(20) == 0 ? pick(14) : 1 + random.nextInt(3);
        long number = random.nextInt(8) == 0 ? random.nextLong() >> random.nextInt(64) : random.nextInt(200);
        due.is(at + "check " + number + " " + digits, x.check(number, digits), model.check(number, digits));
        int slip = random.nextInt(6) == 0 ? random.nextInt(10) : 0;
        long barcode = number * 10 + model.check(number, digits) + slip;
        int type = pick(6);
        int home = pick(10);
        due.is(at + "copy " + type + " " + barcode + " " + digits + " " + home,
            x.copy(type, barcode, digits, home), model.copy(type, barcode, digits, home));
    }

    private void act(String at) {
        int copy = copy();
        int kind = random.nextInt(3) == 0 ? 0 : pick(7);
        int place = pick(10);
        long day = day();
        due.is(at + "act " + copy + " " + kind + " " + place + " " + day,
            x.act(copy, kind, place, day), model.act(copy, kind, place, day));
    }

    private void settings(String at, int dice) {
        boolean on = random.nextInt(3) != 0;
        if (dice < 54) {
            int place = pick(10);
            int type = pick(6);
            due.is(at + "right " + place + " " + type + " " + on,
                x.right(place, type, on), model.right(place, type, on));
        } else if (dice < 58) {
            int type = pick(6);
            int cents = random.nextInt(5) == 0 ? 999999 + random.nextInt(3) : random.nextInt(500) - 5;
            due.is(at + "fee " + type + " " + cents, x.fee(type, cents), model.fee(type, cents));
        } else {
            int copy = copy();
            due.is(at + "floats " + copy + " " + on, x.floats(copy, on), model.floats(copy, on));
        }
    }

    private void ask(String at, int dice) {
        int copy = copy();
        if (dice < 78) {
            long day = day();
            due.is(at + "state " + copy + " " + day, x.state(copy, day), model.state(copy, day));
        } else if (dice < 82) {
            due.is(at + "place " + copy, x.place(copy), model.place(copy));
        } else if (dice < 86) {
            due.is(at + "home " + copy, x.home(copy), model.home(copy));
        } else if (dice < 90) {
            due.is(at + "owed " + copy, x.owed(copy), model.owed(copy));
        } else if (dice < 96) {
            int i = pick(20);
            int what = pick(2);
            due.is(at + "history " + copy + " " + i + " " + what,
                x.history(copy, i, what), model.history(copy, i, what));
        } else {
            int state = pick(8);
            int home = random.nextBoolean() ? -1 : pick(10);
            due.is(at + "count " + state + " " + home, x.count(state, home), model.count(state, home));
        }
    }

    private int copy() {
        return random.nextInt(30) == 0 ? pick(82) : 1 + random.nextInt(copies);
    }

    private int pick(int below) {
        return random.nextInt(40) == 0 ? odd(below) : random.nextInt(below);
    }

    private int odd(int below) {
        int i = random.nextInt(ODD.length + 1);
        return i == ODD.length ? below : ODD[i];
    }

    private long day() {
        int dice = random.nextInt(200);
        if (dice == 0) {
            return ODD_DAYS[random.nextInt(ODD_DAYS.length)];
        }
        if (dice < 60) {
            return random.nextInt((int) Math.min(today, 1000) + 1);
        }
        today += random.nextInt(3);
        return today;
    }
}
