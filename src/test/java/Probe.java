import java.nio.charset.StandardCharsets;
import java.util.NoSuchElementException;

/** Feeds texts, asks, and keeps count of the answers that are not as due. */
final class Probe {
    /** What stands for a call that throws NoSuchElementException; no call answers it. */
    static final long THROWN = Long.MIN_VALUE;
    /** Ints that no promise knows as a pane, guild, place, hour or what. */
    static final int[] FAR_OFF = {Integer.MIN_VALUE, Integer.MIN_VALUE + 1, -1000, -2, 1000, Integer.MAX_VALUE - 1, Integer.MAX_VALUE};

    private final String name;
    private String sentence = "";
    private int sentences;
    private int asked;
    private int wrong;

    Probe(String name) {
        this.name = name;
    }

    static int feed(PaneSpots spots, String text) {
        byte[] bytes = text.getBytes(StandardCharsets.ISO_8859_1);
        int size = spots.count(8);
        for (int at = 0; at < bytes.length; at += 24) {
            size = spots.feed(packed(bytes, at), packed(bytes, at + 8), packed(bytes, at + 16));
        }
        return size;
    }

    static long packed(byte[] bytes, int from) {
        long row = 0;
        for (int i = from; i < from + 8; i++) {
            row = row << 8 | (i < bytes.length ? bytes[i] & 255 : 0);
        }
        return row;
    }

    static int tell(PaneSpots spots, String text) {
        feed(spots, text);
        return spots.chapel();
    }

    /** What clouded answers, THROWN if it throws. */
    static long clouded(PaneSpots spots, int seed, int guild) {
        try {
            return spots.clouded(seed, guild);
        } catch (NoSuchElementException e) {
            return THROWN;
        }
    }

    /** The document's sentence that is tested from here on; it is told with each answer that is not as due. */
    void says(String told) {
        sentence = " [" + told + "]";
        sentences++;
    }

    /** A new object with a chapel that must be without a FAULT. */
    PaneSpots told(String text) {
        PaneSpots spots = new PaneSpots();
        due("chapel of: " + text, tell(spots, text), 0);
        return spots;
    }

    /** A text with a | right ahead of the token that is wrong. */
    void fault(int kind, String marked) {
        int at = marked.indexOf('|');
        String text = marked.substring(0, at) + marked.substring(at + 1);
        due(marked, tell(new PaneSpots(), text), kind + 16 * at);
    }

    void due(String call, long got, long want) {
        asked++;
        if (got != want) {
            wrong++;
            System.out.println(name + ": " + call + " answered " + got + ", due is " + want + sentence);
        }
    }

    void due(String call, boolean got, boolean want) {
        due(call, got ? 1 : 0, want ? 1 : 0);
    }

    void end() {
        String of = sentences == 0 ? "" : sentences + " sentences, ";
        System.out.println(name + ": " + of + asked + " asked, " + wrong + " not as due");
        if (wrong != 0) {
            System.exit(1);
        }
    }
}
