import java.nio.charset.StandardCharsets;

/** Feeds texts, asks, and keeps count of the answers that are not as due. */
final class Probe {
    private final String name;
    private int asked;
    private int wrong;

    Probe(String name) {
        this.name = name;
    }

    static int feed(PaneSpots spots, String text) {
        byte[] bytes = text.getBytes(StandardCharsets.ISO_8859_1);
        int size = spots.count(8);
        for (int at = 0; at < bytes.length; at += 24) {
            size = spots.feed(packed(bytes, at), packed(bytes, at + 8), packed(bytes, at + 16));
        }
        return size;
    }

    static long packed(byte[] bytes, int from) {
        long row = 0;
        for (int i = from; i < from + 8; i++) {
            row = row << 8 | (i < bytes.length ? bytes[i] & 255 : 0);
        }
        return row;
    }

    static int tell(PaneSpots spots, String text) {
        feed(spots, text);
        return spots.chapel();
    }

    /** A new object with a chapel that must be without a FAULT. */
    PaneSpots told(String text) {
        PaneSpots spots = new PaneSpots();
        due("chapel of: " + text, tell(spots, text), 0);
        return spots;
    }

    void due(String call, long got, long want) {
        asked++;
        if (got != want) {
            wrong++;
            System.out.println(name + ": " + call + " answered " + got + ", due is " + want);
        }
    }

    void due(String call, boolean got, boolean want) {
        due(call, got ? 1 : 0, want ? 1 : 0);
    }

    void end() {
        System.out.println(name + ": " + asked + " asked, " + wrong + " not as due");
        if (wrong != 0) {
            System.exit(1);
        }
    }
}
