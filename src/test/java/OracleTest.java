import java.nio.charset.StandardCharsets;
import java.util.NoSuchElementException;
import java.util.Random;

/** Random runs of calls, each answer set against that of Oracle. */
public final class OracleTest {
    private static final int RUNS = 120;
    private static final int CALLS = 220;

    private static final Probe PROBE = new Probe("OracleTest");

    private final Random random;
    private final int run;
    private PaneSpots spots = new PaneSpots();
    private Oracle oracle = new Oracle();

    private OracleTest(int run) {
        this.run = run;
        random = new Random(run);
    }

    public static void main(String[] args) {
        int first = args.length > 0 ? Integer.parseInt(args[0]) : 0;
        int runs = args.length > 1 ? Integer.parseInt(args[1]) : RUNS;
        for (int run = first; run < first + runs; run++) {
            OracleTest test = new OracleTest(run);
            test.play();
        }
        PROBE.end();
    }

    private void play() {
        String text = new Texts(random).chapel();
        if (run % 3 == 1) {
            text = Texts.tightened(text, random);
        } else if (run % 3 == 2) {
            text = new Texts(random).market();
        }
        tell(text);
        for (int n = 0; n < CALLS; n++) {
            int kind = random.nextInt(100);
            if (kind < 3) {
                tell(new Texts(random).spoilt());
            } else if (kind < 4) {
                tell(new Texts(random).chapel());
            } else if (kind < 50) {
                lightCalls();
            } else if (kind < 75) {
                change();
            } else {
                yearCalls();
            }
        }
    }

    private void due(String call, long got, long want) {
        PROBE.due("run " + run + ": " + call, got, want);
    }

    private void due(String call, boolean got, boolean want) {
        PROBE.due("run " + run + ": " + call, got, want);
    }

    private void tell(String text) {
        byte[] bytes = text.getBytes(StandardCharsets.ISO_8859_1);
        for (int at = 0; at < bytes.length; at += 24) {
            long a = Probe.packed(bytes, at);
            long b = Probe.packed(bytes, at + 8);
            long c = Probe.packed(bytes, at + 16);
            due("feed", spots.feed(a, b, c), oracle.feed(a, b, c));
        }
        due("chapel of " + text, spots.chapel(), oracle.chapel());
    }

    private int any(int most) {
        return random.nextInt(most + 3) - 1;
    }

    private int pane() {
        int panes = oracle.count(3);
        return random.nextInt(12) == 0 || panes == 0 ? any(12) : random.nextInt(panes);
    }

    private int guild() {
        int guilds = oracle.count(2);
        return random.nextInt(12) == 0 || guilds == 0 ? any(6) : random.nextInt(guilds);
    }

    private int week() {
        return random.nextInt(20) == 0 ? any(52) : random.nextInt(52);
    }

    private int hour() {
        return random.nextInt(20) == 0 ? any(24) : random.nextInt(3) > 0 ? 9 + random.nextInt(7) : random.nextInt(24);
    }

    private int x() {
        return random.nextInt(12) == 0 ? any(8) : random.nextInt(oracle.count(0));
    }

    private int y() {
        return random.nextInt(12) == 0 ? any(8) : random.nextInt(oracle.count(1));
    }

    private void lightCalls() {
        int w = week();
        int h = hour();
        int p = pane();
        int g = guild();
        int what = any(5);
        switch (random.nextInt(8)) {
            case 0 -> due("guild " + g + " " + what, spots.guild(g, what), oracle.guild(g, what));
            case 1 -> due("pane " + p + " " + what, spots.pane(p, what), oracle.pane(p, what));
            case 2 -> due("spot " + p + " " + w + " " + h, spots.spot(p, w, h), oracle.spot(p, w, h));
            case 3 -> {
                int x = x();
                int y = y();
                what = any(2);
                due("place " + x + " " + y + " " + w + " " + h + " " + what, spots.place(x, y, w, h, what),
                    oracle.place(x, y, w, h, what));
            }
            case 4 -> {
                int last = h + random.nextInt(24) - 2;
                what = random.nextBoolean() ? -1 : any(Math.max(1, last - h));
                due("stall " + g + " " + w + " " + h + " " + last + " " + what, spots.stall(g, w, h, last, what),
                    oracle.stall(g, w, h, last, what));
            }
            case 5 -> due("candles " + w + " " + h, spots.candles(w, h), oracle.candles(w, h));
            case 6 -> stainCalls(w, h);
            default -> {
                what = any(9);
                due("count " + what, spots.count(what), oracle.count(what));
            }
        }
    }

    /** Colours as one would really see them on a walk, so that there are rows. */
    private int walked(int w, int h, int hours) {
        int colours = 0;
        int x = x();
        int y = y();
        for (int i = 0; i < hours; i++) {
            int colour = oracle.place(x, y, w, h + i, 1);
            colours |= (colour < 0 ? 0 : colour) << 3 * i;
            if (random.nextBoolean()) {
                x += random.nextInt(3) - 1;
            } else {
                y += random.nextInt(3) - 1;
            }
        }
        return colours;
    }

    private void stainCalls(int w, int h) {
        boolean wide = oracle.count(0) * oracle.count(1) > 20;
        int hours = 1 + random.nextInt(wide ? 4 : 6);
        if (random.nextInt(20) == 0) {
            hours = random.nextBoolean() ? 0 : 7;
        }
        int colours = random.nextInt(5) == 0 ? random.nextInt(1 << 3 * hours + 1) - 1 : walked(w, h, Math.min(hours, 6));
        int i = random.nextInt(hours + 2) - 1;
        boolean some = random.nextBoolean();
        String about = w + " " + h + " " + hours + " " + colours;
        due("stains " + about, spots.stains(w, h, hours, colours), oracle.stains(w, h, hours, colours));
        due("stood " + about + " " + i + " " + some, spots.stood(w, h, hours, colours, i, some),
            oracle.stood(w, h, hours, colours, i, some));
    }

    private void change() {
        int a = pane();
        int b = pane();
        boolean flag = random.nextInt(3) == 0;
        switch (random.nextInt(7)) {
            case 0, 1 -> due("exchange " + a + " " + b, spots.exchange(a, b), oracle.exchange(a, b));
            case 2, 3 -> due("breaks " + a + " " + flag, spots.breaks(a, flag), oracle.breaks(a, flag));
            case 4 -> {
                for (int n = random.nextInt(4); n >= 0; n--) {
                    due("undo", spots.undo(), oracle.undo());
                }
            }
            case 5 -> {
                int x = x();
                int y = y();
                int colour = any(7);
                due("see " + x + " " + y + " " + colour, spots.see(x, y, colour), oracle.see(x, y, colour));
                if (random.nextInt(12) == 0) {
                    due("clear", spots.clear(), oracle.clear());
                }
            }
            default -> {
                int mark = any(3);
                due("mark " + mark + " " + flag, spots.mark(mark, flag), oracle.mark(mark, flag));
            }
        }
    }

    private void yearCalls() {
        int p = pane();
        int q = pane();
        int g = guild();
        switch (random.nextInt(10)) {
            case 0 -> due("yields " + p, spots.yields(p), oracle.yields(p));
            case 1 -> due("rents " + g, spots.rents(g), oracle.rents(g));
            case 2 -> due("worth " + g + " " + p, spots.worth(g, p), oracle.worth(g, p));
            case 3 -> due("gain " + p + " " + q, spots.gain(p, q), oracle.gain(p, q));
            case 4 -> due("best NONE", spots.best(-1), oracle.best(-1));
            case 5 -> {
                for (int i = -2; i <= oracle.count(3); i++) {
                    due("best " + i, spots.best(i), oracle.best(i));
                }
            }
            case 6 -> due("fallen", spots.fallen(), oracle.fallen());
            case 7 -> due("falls " + g, spots.falls(g), oracle.falls(g));
            case 8 -> {
                int what = any(2);
                due("when " + what, spots.when(what), oracle.when(what));
            }
            default -> {
                int seed = random.nextInt(10) == 0 ? -1 + 10001 * random.nextInt(2) : random.nextInt(10000);
                int guild = random.nextBoolean() ? -1 : g;
                due("clouded " + seed + " " + guild, cloudedOf(seed, guild, true), cloudedOf(seed, guild, false));
            }
        }
    }

    private long cloudedOf(int seed, int guild, boolean real) {
        try {
            return real ? spots.clouded(seed, guild) : oracle.clouded(seed, guild);
        } catch (NoSuchElementException e) {
            return Long.MIN_VALUE;
        }
    }
}
