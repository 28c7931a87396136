/** The boundary cases that the document names of clouds, marks and counts (section 5, promises 25 to 27), sentence by sentence. */
public final class BoundsRestTest {
    private static final Probe PROBE = new Probe("BoundsRestTest");
    private static final int NONE = PaneSpots.NONE;
    private static final String ONE = "floor 1 1 ; guild a likes 0 owes 9999 ; pane 0 0 of a colour 1 ; east 0 ; deep 0 ; ";
    private static final String TWO = "floor 2 2 ; guild a likes 0 owes 0 ; guild b likes 0 owes 0 ; pane 0 0 of a colour 1 ;"
        + " pane 1 0 of b colour 2 ; dark 0 ; east 0 ; ";

    public static void main(String[] args) {
        none();
        seeds();
        draws();
        belowCloud();
        eachTimeInOrder();
        howManyHaveLess();
        cloudedRefused();
        marks();
        whatMarksHold();
        nothingUndoneThen();
        markRefused();
        count();
        PROBE.end();
    }

    private static void none() {
        PROBE.says("NONE = -1: None");
        PROBE.due("NONE", PaneSpots.NONE, -1);
    }

    private static void seeds() {
        PROBE.says("By CLOUDS of a SEED (0 to 9999)");
        PaneSpots x = PROBE.told(ONE + "dark 0 ; cloud 4 ;");
        for (int seed : new int[] {0, 1, 4999, 9998, 9999}) {
            PROBE.due("seed " + seed, Probe.clouded(x, seed, 0), litTimes(seed, 4));
        }
        for (int seed : new int[] {-1, 10000, 10001}) {
            PROBE.due("seed " + seed, Probe.clouded(x, seed, 0), Probe.THROWN);
            PROBE.due("seed " + seed + ", NONE", Probe.clouded(x, seed, NONE), Probe.THROWN);
        }
        for (int far : Probe.FAR_OFF) {
            if (far != 1000) {
                PROBE.due("seed " + far, Probe.clouded(x, far, 0), Probe.THROWN);
            }
        }
    }

    /** How many of a year's TIMES no cloud darkens, drawn as the document tells. */
    private static int litTimes(int seed, int cloud) {
        long g = seed;
        int lit = 0;
        for (int time = 0; time < 1248; time++) {
            g = (g * 1103515245L + 12345L) % 2147483648L;
            lit += g / 65536 % 8 < cloud ? 0 : 1;
        }
        return lit;
    }

    private static void draws() {
        PROBE.says("g becomes (g * 1103515245 + 12345) modulo 2147483648 (g is the SEED at first); it is g / 65536, cut, modulo m");
        // seed 1: g becomes 1103527590, 377401575, 662824084, 1147902781: draws 16838, 5758, 10113, 17515, below 8: 6, 6, 1, 3
        int[] drawn = {6, 6, 1, 3};
        for (int hour = 0; hour < drawn.length; hour++) {
            for (int cloud = 0; cloud <= 8; cloud++) {
                PaneSpots x = PROBE.told(ONE + "dark not ( week = 0 and hour = " + hour + " ) ; cloud " + cloud + " ;");
                PROBE.due("hour " + hour + ", cloud " + cloud, Probe.clouded(x, 1, 0), drawn[hour] < cloud ? 0 : 1);
            }
        }
        // seed 0: 12345 is below 65536, so the first draw is 0
        PaneSpots x = PROBE.told(ONE + "dark week or hour ; cloud 1 ;");
        PROBE.due("seed 0, the first draw", Probe.clouded(x, 0, 0), 0);
    }

    private static void belowCloud() {
        PROBE.says("if it is below cloud, there is no light");
        for (int cloud = 0; cloud <= 8; cloud++) {
            PaneSpots x = PROBE.told(ONE + "dark 0 ; cloud " + cloud + " ;");
            for (int seed : new int[] {0, 7, 9999}) {
                PROBE.due("seed " + seed + ", cloud " + cloud, Probe.clouded(x, seed, 0), litTimes(seed, cloud));
            }
            PROBE.due("without a seed no cloud", x.rents(0), 1248);
        }
        PROBE.due("cloud 0: all", Probe.clouded(PROBE.told(ONE + "dark 0 ; cloud 0 ;"), 5, 0), 1248);
        PROBE.due("without a cloud: all", Probe.clouded(PROBE.told(ONE + "dark 0 ;"), 5, 0), 1248);
        PROBE.due("cloud 8: none", Probe.clouded(PROBE.told(ONE + "dark 0 ; cloud 8 ;"), 5, 0), 0);
    }

    private static void eachTimeInOrder() {
        PROBE.says("CLOUDS: for each TIME of a year in order a DRAW below 8");
        for (int time : new int[] {0, 1, 23, 24, 25, 1246, 1247}) {
            PaneSpots x = PROBE.told(ONE + "dark not ( week = " + time / 24 + " and hour = " + time % 24 + " ) ; cloud 4 ;");
            for (int seed = 0; seed < 6; seed++) {
                PROBE.due("time " + time + ", seed " + seed, Probe.clouded(x, seed, 0), isLit(seed, time) ? 1 : 0);
            }
        }
        PaneSpots y = PROBE.told(ONE + "dark 0 ; cloud 4 ; rent week ;");
        long first = Probe.clouded(y, 3, 0);
        PROBE.due("another seed", Probe.clouded(y, 4, 0) != first, true);
        PROBE.due("the same seed draws the same", Probe.clouded(y, 3, 0), first);
    }

    private static boolean isLit(int seed, int at) {
        long g = seed;
        for (int time = 0; time <= at; time++) {
            g = (g * 1103515245L + 12345L) % 2147483648L;
        }
        return g / 65536 % 8 >= 4;
    }

    private static void howManyHaveLess() {
        PROBE.says("RENTS of a GUILD (NONE: how many have less than they owe)");
        int lit = litTimes(5, 3);
        PaneSpots x = PROBE.told("floor 8 1 ; guild a likes 0 owes " + lit + " ; guild b likes 0 owes " + (lit + 1)
            + " ; guild c likes 0 owes " + (lit - 1) + " ; guild d likes 0 owes 1 ; guild e likes 0 owes 0 ; guild f likes 0 owes 9999 ;"
            + " pane 0 0 of a colour 1 ; pane 1 0 of b colour 1 ; pane 2 0 of c colour 1 ; pane 3 0 of f colour 1 ; dark 0 ; east 0 ; cloud 3 ;");
        PROBE.due("as much as it owes", Probe.clouded(x, 5, 0), lit);
        PROBE.due("b, the one without a pane that owes 1, f", Probe.clouded(x, 5, NONE), 3);
        x.breaks(0, false);
        PROBE.due("a's pane broken", Probe.clouded(x, 5, 0), 0);
        PROBE.due("a too", Probe.clouded(x, 5, NONE), 4);
        x.exchange(0, 3);
        PROBE.due("a has f's now", Probe.clouded(x, 5, 0), lit);
        PROBE.due("f has the broken one", Probe.clouded(x, 5, 5), 0);
        PaneSpots none = PROBE.told("cloud 8 ;");
        PROBE.due("no guild", Probe.clouded(none, 0, NONE), 0);
        StringBuilder six = new StringBuilder("cloud 8 ; ");
        for (int g = 0; g < 6; g++) {
            six.append("guild g").append((char) ('a' + g)).append(" likes 0 owes 1 ; ");
        }
        PROBE.due("all six", Probe.clouded(PROBE.told(six.toString()), 0, NONE), 6);
    }

    private static void cloudedRefused() {
        PROBE.says("NoSuchElementException: others");
        PaneSpots x = PROBE.told(TWO);
        for (int guild = -2; guild <= 6; guild++) {
            PROBE.due("guild " + guild, Probe.clouded(x, 0, guild), guild < -1 || guild > 1 ? Probe.THROWN : guild == NONE ? 0 : 1248);
        }
        for (int far : Probe.FAR_OFF) {
            PROBE.due("guild " + far, Probe.clouded(x, 0, far), Probe.THROWN);
            PROBE.due("both " + far, Probe.clouded(x, -1, far), Probe.THROWN);
        }
        PROBE.due("it changed nothing", x.count(5), 0);
        PROBE.due("and answers as before", Probe.clouded(x, 0, 1), 1248);
    }

    private static void marks() {
        PROBE.says("MARKS 0 to 3");
        PaneSpots x = PROBE.told(TWO);
        for (int mark = 0; mark < 4; mark++) {
            x.clear();
            for (int n = 0; n <= mark; n++) {
                x.see(0, 0, mark);
            }
            PROBE.due("laid " + mark, x.mark(mark, false), true);
        }
        for (int mark = 3; mark >= 0; mark--) {
            PROBE.due("back to " + mark, x.mark(mark, true), true);
            PROBE.due("each its own", x.count(6), mark + 1);
        }
        PROBE.due("again", x.mark(3, true), true);
        PROBE.due("as it was", x.count(6), 4);
        x.clear();
        PROBE.due("laid anew", x.mark(3, false), true);
        x.see(0, 0, 0);
        x.mark(3, true);
        PROBE.due("the newer one", x.count(6), 0);
    }

    private static void whatMarksHold() {
        PROBE.says("hold who has which pane, what is BROKEN, what is SEEN");
        PaneSpots x = PROBE.told(TWO);
        x.exchange(0, 1);
        x.breaks(1, false);
        x.see(0, 0, 1);
        x.see(0, 1, 2);
        x.mark(1, false);
        PROBE.due("laid, all stays", x.count(4) * 100 + x.count(5) * 10 + x.count(6), 122);
        x.exchange(0, 1);
        x.breaks(1, true);
        x.breaks(0, false);
        x.clear();
        x.see(1, 1, 7);
        PROBE.due("another state", x.mark(1, true), true);
        PROBE.due("who has which", x.pane(0, 2) * 10 + x.pane(1, 2), 10);
        PROBE.due("what is broken", x.pane(0, 4) * 10 + x.pane(1, 4), 1);
        PROBE.due("what is seen", x.count(6), 2);
        PROBE.due("its colours and places", x.candles(0, 0), 1);
        x.breaks(1, true);
        x.see(0, 0, 3);
        x.mark(1, true);
        PROBE.due("changes behind it do not change it", x.pane(1, 4) * 10 + x.count(6), 12);
        Probe.feed(x, "floor");
        x.mark(1, true);
        PROBE.due("the tape stays", x.count(8), 5);
    }

    private static void nothingUndoneThen() {
        PROBE.says("(nothing can be undone when one is gone back to)");
        PaneSpots x = PROBE.told(TWO);
        x.breaks(0, false);
        x.mark(0, false);
        PROBE.due("when it is laid it can", x.count(5), 1);
        x.exchange(0, 1);
        x.mark(0, true);
        PROBE.due("none", x.count(5), 0);
        PROBE.due("undo", x.undo(), false);
        PROBE.due("broken still", x.pane(0, 4), 1);
        x.breaks(1, false);
        PROBE.due("what is done from then on can", x.undo(), true);
        PROBE.due("no more than that", x.undo(), false);
    }

    private static void markRefused() {
        PROBE.says("A MARK is laid (back: gone back to): true; false: none such, nothing is on it (back)");
        PaneSpots x = PROBE.told(TWO);
        x.breaks(0, false);
        for (int mark = -2; mark <= 5; mark++) {
            PROBE.due("nothing is on " + mark, x.mark(mark, true), false);
        }
        PROBE.due("all stays", x.count(4) * 10 + x.count(5), 11);
        for (int mark = -2; mark <= 5; mark++) {
            boolean known = mark >= 0 && mark < 4;
            PROBE.due("lay " + mark, x.mark(mark, false), known);
            for (int other = -2; other <= 5; other++) {
                if (other > mark) {
                    PROBE.due("none on " + other + " when " + mark + " is laid", x.mark(other, true), false);
                }
            }
            PROBE.due("back to " + mark, x.mark(mark, true), known);
        }
        for (int far : Probe.FAR_OFF) {
            PROBE.due("lay " + far, x.mark(far, false), false);
            PROBE.due("back to " + far, x.mark(far, true), false);
        }
        for (int mark : new int[] {32, 33, 64, -32, -4}) {
            PROBE.due("lay " + mark, x.mark(mark, false), false);
            PROBE.due("back to " + mark, x.mark(mark, true), false);
        }
    }

    private static void count() {
        PROBE.says("What 0: how wide .. 8: signs on the TAPE. NONE for another what");
        PaneSpots x = PROBE.told("floor 7 5 ; guild a likes 0 owes 0 ; guild b likes 0 owes 0 ; guild c likes 0 owes 0 ;"
            + " pane 0 0 of a colour 1 ; pane 1 0 of b colour 2 ; pane 2 0 of a colour 2 ; pane 3 0 of a colour 2 ; cloud 6 ;");
        x.breaks(0, false);
        x.breaks(3, false);
        x.exchange(0, 1);
        x.breaks(3, true);
        x.breaks(2, false);
        x.see(6, 4, 1);
        Probe.feed(x, "123456789");
        int[] counts = {7, 5, 3, 4, 2, 5, 1, 6, 9};
        for (int what = -2; what <= 11; what++) {
            PROBE.due("count " + what, x.count(what), what >= 0 && what <= 8 ? counts[what] : NONE);
        }
        for (int far : Probe.FAR_OFF) {
            PROBE.due("count " + far, x.count(far), NONE);
        }
    }
}
