import java.lang.management.ManagementFactory;
import java.util.NoSuchElementException;
import java.util.Random;

/** What a run makes: all rows are made with the object, and calls make nothing more. */
public final class RoomTest {
    // Some 13,000 elements, most of them ints.
    private static final long MOST_OF_AN_OBJECT = 80_000;
    private static final long MOST_OF_CALLS = 20_000;

    public static void main(String[] args) {
        Random random = new Random(7);
        String[] texts = new String[40];
        for (int i = 0; i < texts.length; i++) {
            texts[i] = i % 2 == 0 ? new Texts(random).chapel() : new Texts(random).market();
        }
        play(new PaneSpots(), fedRows(texts[0]));
        long[][] rows = new long[texts.length][];
        for (int i = 0; i < texts.length; i++) {
            rows[i] = fedRows(texts[i]);
        }
        long start = made();
        PaneSpots x = new PaneSpots();
        long object = made() - start;
        start = made();
        for (long[] row : rows) {
            play(x, row);
        }
        long calls = made() - start;
        System.out.println("RoomTest: an object takes " + object + " bytes, calls " + calls);
        if (object > MOST_OF_AN_OBJECT || calls > MOST_OF_CALLS) {
            System.exit(1);
        }
    }

    private static long made() {
        return ((com.sun.management.ThreadMXBean) ManagementFactory.getThreadMXBean()).getCurrentThreadAllocatedBytes();
    }

    private static long[] fedRows(String text) {
        byte[] bytes = text.getBytes(java.nio.charset.StandardCharsets.ISO_8859_1);
        long[] rows = new long[(bytes.length / 24 + 1) * 3];
        for (int i = 0; i < rows.length; i++) {
            rows[i] = Probe.packed(bytes, 8 * i);
        }
        return rows;
    }

    private static void play(PaneSpots x, long[] rows) {
        for (int i = 0; i + 2 < rows.length; i += 3) {
            x.feed(rows[i], rows[i + 1], rows[i + 2]);
        }
        x.chapel();
        for (int n = 0; n < 3; n++) {
            x.breaks(n, false);
            x.exchange(n, n + 1);
            x.best(PaneSpots.NONE);
            x.fallen();
            x.stall(0, 0, 0, 23, PaneSpots.NONE);
            x.see(n, 0, 1);
            x.when(0);
            x.stood(0, 0, 6, 0, 3, true);
            x.mark(n, false);
            x.mark(n, true);
            x.undo();
            cloud(x);
        }
    }

    private static void cloud(PaneSpots x) {
        try {
            x.clouded(1, PaneSpots.NONE);
        } catch (NoSuchElementException e) {
            throw new IllegalStateException("clouded knows of no such seed", e);
        }
    }
}
