import java.util.Random;

/** No call throws for any arguments in any state, also behind the 512th call, where answers are free. */
public final class EnduranceTest {
    private static final long[] EDGES = {
        Long.MIN_VALUE, Integer.MIN_VALUE, -10, -3, -2, -1, 0, 1, 2, 3, 5, 6, 7, 9, 10, 79, 80, 81, 99, 100,
        511, 512, 513, 1000000, 1000001, 1000000000000L, 1000000000001L, Integer.MAX_VALUE, Long.MAX_VALUE};

    public static void main(String[] args) {
        Due due = new Due("endurance");
        for (int seed = 1; seed <= 20; seed++) {
            Random random = new Random(seed);
            ItemStates x = House.with(seed % 2 == 0 ? 80 : 1);
            int thrown = 0;
            for (int call = 0; call < 5000; call++) {
                try {
                    anyCall(x, random);
                } catch (RuntimeException | Error e) {
                    thrown++;
                    System.out.println("seed " + seed + " call " + call + ": " + e);
                }
            }
            due.is("calls that threw with seed " + seed, thrown, 0);
        }
        due.end();
    }

    private static void anyCall(ItemStates x, Random random) {
        int a = (int) edge(random);
        int b = (int) edge(random);
        int c = (int) edge(random);
        long day = edge(random);
        boolean on = random.nextBoolean();
        switch (random.nextInt(15)) {
            case 0: x.check(day, a); break;
            case 1: x.copy(a, day, b, c); break;
            case 2: x.right(a, b, on); break;
            case 3: x.fee(a, b); break;
            case 4: x.act(a, b, c, day); break;
            case 5: x.state(a, day); break;
            case 6: x.place(a); break;
            case 7: x.floats(a, on); break;
            case 8: x.home(a); break;
            case 9: x.weed(a, b); break;
            case 10: x.owed(a); break;
            case 11: x.history(a, b, c); break;
            case 12: x.count(a, b); break;
            case 13: House.add(x, random.nextInt(6), random.nextInt(1000), random.nextInt(10)); break;
            default: x.act(1 + random.nextInt(80), random.nextInt(7), random.nextInt(10), random.nextInt(3000));
        }
    }

    private static long edge(Random random) {
        return EDGES[random.nextInt(EDGES.length)];
    }
}
