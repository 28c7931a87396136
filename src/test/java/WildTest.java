import java.util.NoSuchElementException;
import java.util.Random;

/** Calls with any arguments in any state: nothing but clouded may throw, and all the same calls answer the same. */
public final class WildTest {
    private static final int RUNS = 300;
    private static final int CALLS = 500;
    private static final int[] EDGES = {Integer.MIN_VALUE, Integer.MIN_VALUE + 1, -1000, -2, -1, 0, 1, 2, 3, 4, 5, 6, 7, 8, 9, 11,
        12, 13, 23, 24, 25, 31, 32, 33, 51, 52, 53, 63, 64, 1247, 1248, 9999, 10000, Integer.MAX_VALUE - 1, Integer.MAX_VALUE};

    public static void main(String[] args) {
        for (int run = 0; run < RUNS; run++) {
            long first = answers(run);
            long second = answers(run);
            if (first != second) {
                System.out.println("WildTest: run " + run + " answered " + first + ", then " + second);
                System.exit(1);
            }
        }
        System.out.println("WildTest: " + RUNS + " runs without a wrong end");
    }

    private static int edge(Random random) {
        return random.nextInt(3) == 0 ? random.nextInt(10) : EDGES[random.nextInt(EDGES.length)];
    }

    private static long answers(int run) {
        Random random = new Random(run);
        PaneSpots x = new PaneSpots();
        long sum = Probe.tell(x, run % 2 == 0 ? new Texts(random).chapel() : new Texts(random).market());
        for (int n = 0; n < CALLS; n++) {
            sum = sum * 31 + answer(x, random);
        }
        return sum;
    }

    private static long answer(PaneSpots x, Random random) {
        int a = edge(random);
        int b = edge(random);
        int c = edge(random);
        int d = edge(random);
        int e = edge(random);
        boolean flag = random.nextBoolean();
        switch (random.nextInt(27)) {
            case 0: return x.feed(random.nextLong(), random.nextLong(), random.nextLong());
            case 1: return random.nextInt(20) == 0 ? x.chapel() : 0;
            case 2: return x.guild(a, b);
            case 3: return x.pane(a, b);
            case 4: return x.spot(a, b, c);
            case 5: return x.place(a, b, c, d, e);
            case 6: return x.yields(a);
            case 7: return x.rents(a);
            case 8: return x.worth(a, b);
            case 9: return x.gain(a, b);
            case 10: return x.best(a);
            case 11: return x.exchange(a, b) ? 1 : 0;
            case 12: return x.breaks(a, flag) ? 1 : 0;
            case 13: return x.fallen();
            case 14: return x.falls(a);
            case 15: return x.undo() ? 1 : 0;
            case 16: return x.stall(a, b, c, d, e);
            case 17: return x.see(a, b, c);
            case 18: return x.candles(a, b);
            case 19: return x.when(a);
            case 20: return x.clear() ? 1 : 0;
            case 21: return x.stains(a, b, c, d);
            case 22: return x.stood(a, b, c, d, e, flag);
            case 23: return x.mark(a, flag) ? 1 : 0;
            case 24: return x.count(a);
            case 25: return random.nextInt(10) == 0 ? Probe.tell(x, new Texts(random).spoilt()) : 0;
            default: return cloudedOf(x, a, b);
        }
    }

    private static long cloudedOf(PaneSpots x, int seed, int guild) {
        try {
            return x.clouded(seed, guild);
        } catch (NoSuchElementException e) {
            return Long.MIN_VALUE;
        }
    }
}
