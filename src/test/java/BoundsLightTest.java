/** The boundary cases that the document names of light and rents (section 2, promises 1 and 4 to 9), sentence by sentence. */
public final class BoundsLightTest {
    private static final Probe PROBE = new Probe("BoundsLightTest");
    private static final int NONE = PaneSpots.NONE;
    private static final String GUILD = "guild gg likes 1 owes 2 ; ";
    private static final String TWO = "floor 3 2 ; guild a likes 1 owes 2 ; guild b likes 6 owes 9999 ;"
        + " pane 0 0 of a colour 1 ; pane 7 3 of b colour 7 ; dark 0 ; ";

    public static void main(String[] args) {
        newObject();
        guild();
        pane();
        dark();
        brokenPanes();
        onTheFloor();
        spot();
        place();
        colour();
        partners();
        rentOfASpot();
        cutPart();
        allTimesOfAYear();
        asBrokenNow();
        asBrokenInEachChapel();
        yields();
        rents();
        PROBE.end();
    }

    private static void newObject() {
        PROBE.says("PaneSpots(): A floor of 4 by 4, no pane");
        PaneSpots x = new PaneSpots();
        int[] counts = {4, 4, 0, 0, 0, 0, 0, 0, 0};
        for (int what = 0; what < counts.length; what++) {
            PROBE.due("count " + what, x.count(what), counts[what]);
        }
        for (int n = -1; n <= 8; n++) {
            PROBE.due("place " + n + " 0", x.place(n, 0, 0, 12, 2), n >= 0 && n < 4 ? 0 : NONE);
            PROBE.due("place 0 " + n, x.place(0, n, 0, 12, 2), n >= 0 && n < 4 ? 0 : NONE);
        }
        PROBE.due("pane", x.pane(0, 0), NONE);
        PROBE.due("guild", x.guild(0, 0), NONE);
        PROBE.due("spot", x.spot(0, 0, 12), NONE);
        PROBE.due("yields", x.yields(0), NONE);
        PROBE.due("rents", x.rents(0), NONE);
        PROBE.due("worth", x.worth(0, 0), NONE);
        PROBE.due("gain", x.gain(0, 1), NONE);
        PROBE.due("best", x.best(NONE), 0);
        PROBE.due("best of pane 0", x.best(0), NONE);
        PROBE.due("exchange", x.exchange(0, 1), false);
        PROBE.due("breaks", x.breaks(0, false), false);
        PROBE.due("mends", x.breaks(0, true), false);
        PROBE.due("fallen", x.fallen(), 0);
        PROBE.due("falls", x.falls(0), NONE);
        PROBE.due("undo", x.undo(), false);
        PROBE.due("stall", x.stall(0, 0, 12, 12, NONE), NONE);
        PROBE.due("candles", x.candles(51, 23), 0);
        PROBE.due("clouded", Probe.clouded(x, 0, NONE), 0);
        PROBE.due("clouded, guild 0", Probe.clouded(x, 0, 0), Probe.THROWN);
        PROBE.due("stains", x.stains(51, 23, 1, 0), 16);
        PROBE.due("stains of a colour", x.stains(51, 23, 1, 1), 0);
        PROBE.due("mark", x.mark(0, true), false);
        PROBE.due("mark laid", x.mark(0, false), true);
        PROBE.due("mark gone back to", x.mark(0, true), true);
    }

    private static void guild() {
        PROBE.says("Of a GUILD, what 0: likes, 1: owes, 2: its panes as bits; NONE: others");
        PaneSpots x = PROBE.told(TWO);
        int[][] due = {{1, 2, 1}, {6, 9999, 2}};
        for (int g = -1; g <= 6; g++) {
            for (int what = -1; what <= 5; what++) {
                boolean known = g >= 0 && g < 2 && what >= 0 && what < 3;
                PROBE.due("guild " + g + " " + what, x.guild(g, what), known ? due[g][what] : NONE);
            }
        }
        for (int far : Probe.FAR_OFF) {
            PROBE.due("guild " + far, x.guild(far, 0), NONE);
            PROBE.due("what " + far, x.guild(0, far), NONE);
        }
        PROBE.says("its panes as bits");
        StringBuilder text = new StringBuilder("guild a likes 0 owes 0 ; guild b likes 0 owes 0 ; guild c likes 0 owes 0 ; ");
        for (int p = 0; p < 12; p++) {
            text.append("pane ").append(p % 8).append(' ').append(p / 8).append(p % 3 == 0 ? " of a" : " of b").append(" colour 1 ; ");
        }
        PaneSpots y = PROBE.told(text.toString());
        PROBE.due("panes 0, 3, 6, 9", y.guild(0, 2), 1 + 8 + 64 + 512);
        PROBE.due("the others", y.guild(1, 2), 4095 - 585);
        PROBE.due("none", y.guild(2, 2), 0);
        y.breaks(11, false);
        PROBE.due("a broken one too", y.guild(1, 2), 4095 - 585);
    }

    private static void pane() {
        PROBE.says("Of a pane, what 0: column, 1: row, 2: its GUILD, 3: colour, 4: 1 if it is BROKEN; NONE: others");
        PaneSpots x = PROBE.told(TWO);
        x.breaks(1, false);
        int[][] due = {{0, 0, 0, 1, 0}, {7, 3, 1, 7, 1}};
        for (int p = -1; p <= 12; p++) {
            for (int what = -1; what <= 6; what++) {
                boolean known = p >= 0 && p < 2 && what >= 0 && what < 5;
                PROBE.due("pane " + p + " " + what, x.pane(p, what), known ? due[p][what] : NONE);
            }
        }
        for (int far : Probe.FAR_OFF) {
            PROBE.due("pane " + far, x.pane(far, 0), NONE);
            PROBE.due("what " + far, x.pane(0, far), NONE);
        }
        x.breaks(1, true);
        PROBE.due("mended", x.pane(1, 4), 0);
    }

    private static void dark() {
        PROBE.says("if dark is 0");
        for (String e : new String[] {"0", "1 - 1", "not 5", "256 * 256 * 256 * 256"}) {
            PaneSpots x = PROBE.told("floor 1 1 ; " + GUILD + "pane 0 0 of gg colour 1 ; east 0 ; dark " + e + " ;");
            PROBE.due("light if dark is " + e, x.spot(0, 0, 0), 0);
        }
        for (String e : new String[] {"1", "2", "0 - 1", "256 * 256 * 256 * 128"}) {
            PaneSpots x = PROBE.told("floor 1 1 ; " + GUILD + "pane 0 0 of gg colour 1 ; east 0 ; dark " + e + " ;");
            PROBE.due("no light if dark is " + e, x.spot(0, 0, 0), NONE);
            PROBE.due("no yield if dark is " + e, x.yields(0), 0);
        }
    }

    private static void brokenPanes() {
        PROBE.says("the light of each pane that is not BROKEN");
        PaneSpots x = PROBE.told(TWO + "east 0 - column ; deep 1 ;");
        PROBE.due("both", x.place(0, 1, 0, 0, 2), 2);
        x.breaks(0, false);
        PROBE.due("no spot", x.spot(0, 0, 0), NONE);
        PROBE.due("the other's", x.spot(1, 0, 0), 8);
        PROBE.due("one", x.place(0, 1, 0, 0, 2), 1);
        x.breaks(1, false);
        PROBE.due("none", x.place(0, 1, 0, 0, 2), 0);
        x.breaks(0, true);
        PROBE.due("mended", x.spot(0, 0, 0), 8);
    }

    private static void onTheFloor() {
        PROBE.says("if that is on the floor (x from 0 to how wide less 1, y likewise)");
        int[][] floors = {{1, 1}, {3, 2}, {8, 8}, {8, 1}, {1, 8}};
        for (int[] floor : floors) {
            for (int x = -1; x <= 8; x++) {
                for (int y = -1; y <= 8; y++) {
                    PaneSpots spots = PROBE.told("floor " + floor[0] + " " + floor[1] + " ; " + GUILD
                        + "pane 2 0 of gg colour 1 ; dark 0 ; east " + (x + 1) + " - 3 ; deep " + (y + 1) + " - 1 ;");
                    boolean on = x >= 0 && x < floor[0] && y >= 0 && y < floor[1];
                    PROBE.due("spot at " + x + " " + y, spots.spot(0, 51, 23), on ? y * 8 + x : NONE);
                }
            }
        }
    }

    private static void spot() {
        PROBE.says("SPOT of a pane as y * 8 + x; NONE: others, none then");
        PaneSpots x = PROBE.told(TWO + "east 0 - column ; deep 1 ;");
        for (int week = -1; week <= 53; week++) {
            boolean known = week >= 0 && week < 52;
            PROBE.due("week " + week, x.spot(0, week, 0), known ? 8 : NONE);
        }
        for (int hour = -1; hour <= 25; hour++) {
            boolean known = hour >= 0 && hour < 24;
            PROBE.due("hour " + hour, x.spot(0, 0, hour), known ? 8 : NONE);
        }
        for (int pane = -1; pane <= 12; pane++) {
            PROBE.due("pane " + pane, x.spot(pane, 0, 0), pane == 0 || pane == 1 ? 8 : NONE);
        }
        for (int far : Probe.FAR_OFF) {
            PROBE.due("pane " + far, x.spot(far, 0, 0), NONE);
            PROBE.due("week " + far, x.spot(0, far, 0), NONE);
            PROBE.due("hour " + far, x.spot(0, 0, far), NONE);
        }
        PaneSpots twelve = PROBE.told(GUILD + "pane 0 0 of gg colour 1 ; pane 1 0 of gg colour 1 ; pane 2 0 of gg colour 1 ;"
            + " pane 3 0 of gg colour 1 ; pane 4 0 of gg colour 1 ; pane 5 0 of gg colour 1 ; pane 6 0 of gg colour 1 ;"
            + " pane 7 0 of gg colour 1 ; pane 0 1 of gg colour 1 ; pane 1 1 of gg colour 1 ; pane 2 1 of gg colour 1 ;"
            + " pane 3 1 of gg colour 1 ; floor 8 8 ; dark 0 ; east 0 ; deep row + 6 ;");
        for (int pane = 0; pane < 12; pane++) {
            PROBE.due("pane " + pane + " of twelve", twelve.spot(pane, 51, 23), 48 + pane);
        }
        PROBE.due("pane 12 of twelve", twelve.spot(12, 51, 23), NONE);
    }

    private static void place() {
        PROBE.says("Of a place at a TIME, what 0: GUILDS that own it, as bits, 1: COLOUR, 2: how many panes' light; NONE: others");
        PaneSpots x = PROBE.told(TWO + "east 2 - column ; deep 1 ;");
        int[] due = {3, 7, 2};
        for (int what = -2; what <= 4; what++) {
            boolean known = what >= 0 && what < 3;
            PROBE.due("what " + what, x.place(2, 1, 0, 0, what), known ? due[what] : NONE);
        }
        for (int px = -1; px <= 8; px++) {
            for (int py = -1; py <= 8; py++) {
                boolean on = px >= 0 && px < 3 && py >= 0 && py < 2;
                PROBE.due("place " + px + " " + py, x.place(px, py, 51, 23, 2), !on ? NONE : px == 2 && py == 1 ? 2 : 0);
            }
        }
        for (int week : new int[] {-1, 52}) {
            PROBE.due("week " + week, x.place(2, 1, week, 0, 0), NONE);
        }
        for (int hour : new int[] {-1, 24}) {
            PROBE.due("hour " + hour, x.place(2, 1, 0, hour, 0), NONE);
        }
        for (int far : Probe.FAR_OFF) {
            PROBE.due("x " + far, x.place(far, 0, 0, 0, 0), NONE);
            PROBE.due("y " + far, x.place(0, far, 0, 0, 0), NONE);
            PROBE.due("week " + far, x.place(0, 0, far, 0, 0), NONE);
            PROBE.due("hour " + far, x.place(0, 0, 0, far, 0), NONE);
            PROBE.due("what " + far, x.place(0, 0, 0, 0, far), NONE);
        }
    }

    private static void colour() {
        PROBE.says("Its COLOUR: all their colours together (bits), 0 without light");
        for (int first = 1; first <= 7; first++) {
            for (int second = 1; second <= 7; second++) {
                PaneSpots x = PROBE.told("floor 2 1 ; " + GUILD + "pane 0 0 of gg colour " + first + " ; pane 1 0 of gg colour "
                    + second + " ; dark hour ; east 0 - column ; deep 0 ;");
                PROBE.due(first + " and " + second, x.place(0, 0, 0, 0, 1), first | second);
                PROBE.due("beside it", x.place(1, 0, 0, 0, 1), 0);
                PROBE.due("in the dark", x.place(0, 0, 0, 1, 1), 0);
            }
        }
    }

    private static void partners() {
        PROBE.says("A place is OWNED by the GUILDS of all panes whose light falls there: PARTNERS");
        StringBuilder text = new StringBuilder("floor 1 1 ; dark hour ; east 0 - column ; deep 0 ; ");
        for (int g = 0; g < 6; g++) {
            text.append("guild g").append((char) ('a' + g)).append(" likes 0 owes 0 ; ");
            text.append("pane ").append(g).append(" 0 of g").append((char) ('a' + g)).append(" colour 1 ; ");
            text.append("pane ").append(g).append(" 1 of g").append((char) ('a' + g)).append(" colour 1 ; ");
        }
        PaneSpots x = PROBE.told(text.toString());
        PROBE.due("all six", x.place(0, 0, 0, 0, 0), 63);
        PROBE.due("twelve panes", x.place(0, 0, 0, 0, 2), 12);
        x.breaks(10, false);
        PROBE.due("one of two broken: it owns it still", x.place(0, 0, 0, 0, 0), 63);
        x.breaks(11, false);
        PROBE.due("both broken: no more", x.place(0, 0, 0, 0, 0), 31);
        PROBE.due("without light nobody", x.place(0, 0, 0, 1, 0), 0);
    }

    /** So many panes on one place, one TIME of light. */
    private static int yieldOf(int panes, String rent) {
        StringBuilder text = new StringBuilder("floor 1 1 ; east 0 - column ; deep 0 ; dark week or hour ; rent " + rent + " ; " + GUILD);
        for (int p = 0; p < panes; p++) {
            text.append("pane ").append(p % 8).append(' ').append(p / 8).append(" of gg colour 1 ; ");
        }
        PaneSpots x = PROBE.told(text.toString());
        PROBE.due("all yield as much", x.yields(panes - 1), x.yields(0));
        return x.yields(0);
    }

    private static void rentOfASpot() {
        PROBE.says("RENT of a SPOT: the E of rent, 0 if it is below, 999 if above");
        PROBE.due("-1", yieldOf(1, "0 - 1"), 0);
        PROBE.due("0", yieldOf(1, "0"), 0);
        PROBE.due("1", yieldOf(1, "1"), 1);
        PROBE.due("998", yieldOf(1, "998"), 998);
        PROBE.due("999", yieldOf(1, "999"), 999);
        PROBE.due("1000", yieldOf(1, "1000"), 999);
        PROBE.due("9999", yieldOf(1, "9999"), 999);
        PROBE.due("the least int", yieldOf(1, "256 * 256 * 256 * 128"), 0);
        PROBE.due("the greatest int", yieldOf(1, "256 * 256 * 256 * 128 - 1"), 999);
        PROBE.due("999 ahead of its parts", yieldOf(3, "1002"), 333);
        PROBE.due("0 ahead of its parts", yieldOf(2, "0 - 2"), 0);
    }

    private static void cutPart() {
        PROBE.says("each pane whose light falls there yields the part by how many these are, cut");
        PROBE.due("1 by 1", yieldOf(1, "1"), 1);
        PROBE.due("1 by 2", yieldOf(2, "1"), 0);
        PROBE.due("2 by 2", yieldOf(2, "2"), 1);
        PROBE.due("5 by 3", yieldOf(3, "5"), 1);
        PROBE.due("6 by 3", yieldOf(3, "6"), 2);
        PROBE.due("11 by 12", yieldOf(12, "11"), 0);
        PROBE.due("12 by 12", yieldOf(12, "12"), 1);
        PROBE.due("999 by 12", yieldOf(12, "999"), 83);
        PROBE.due("mixed of 12", yieldOf(12, "mixed * 10"), 10);
    }

    private static void allTimesOfAYear() {
        PROBE.says("YIELD of a pane: of all TIMES of a year (52 weeks of 24 hours)");
        String text = "floor 1 1 ; " + GUILD + "pane 0 0 of gg colour 1 ; east 0 ; deep 0 ; rent 999 ; dark ";
        PROBE.due("all", PROBE.told(text + "0 ;").yields(0), 999 * 52 * 24);
        PROBE.due("the first", PROBE.told(text + "week or hour ;").yields(0), 999);
        PROBE.due("the last", PROBE.told(text + "not ( week = 51 and hour = 23 ) ;").yields(0), 999);
        PROBE.due("the last hours", PROBE.told(text + "not ( hour = 23 ) ;").yields(0), 999 * 52);
        PROBE.due("the last week", PROBE.told(text + "not ( week = 51 ) ;").yields(0), 999 * 24);
        PROBE.due("none", PROBE.told(text + "1 ;").yields(0), 0);
        PROBE.due("each with its own week and hour", PROBE.told("floor 1 1 ; " + GUILD + "pane 0 0 of gg colour 1 ; east 0 ; deep 0 ;"
            + " dark 0 ; rent week + hour ;").yields(0), 24 * (51 * 52 / 2) + 52 * (23 * 24 / 2));
    }

    private static void asBrokenNow() {
        PROBE.says("as panes are BROKEN now");
        PaneSpots x = PROBE.told(TWO + "east 0 - column ; deep 1 ; rent 7 ;");
        PROBE.due("both whole", x.yields(0), 3 * 1248);
        x.breaks(0, false);
        PROBE.due("broken", x.yields(0), 0);
        PROBE.due("the other alone", x.yields(1), 7 * 1248);
        x.breaks(1, false);
        PROBE.due("both broken", x.yields(1), 0);
        x.undo();
        PROBE.due("undone", x.yields(1), 7 * 1248);
        x.mark(0, false);
        x.breaks(0, true);
        PROBE.due("mended", x.yields(0), 3 * 1248);
        x.mark(0, true);
        PROBE.due("gone back", x.yields(1), 7 * 1248);
    }

    /** More ways of being broken than any row of years kept can hold, forth and back, in one chapel and then in another. */
    private static void asBrokenInEachChapel() {
        PROBE.says("YIELD of a pane: as panes are BROKEN now, in the CHAPEL from then on");
        PaneSpots x = new PaneSpots();
        for (int times = 1; times <= 3; times++) {
            PROBE.due("told", Probe.tell(x, "floor 8 1 ; " + GUILD + "pane 0 0 of gg colour 1 ; pane 1 0 of gg colour 1 ;"
                + " pane 2 0 of gg colour 1 ; pane 3 0 of gg colour 1 ; pane 4 0 of gg colour 1 ; east 0 ; dark hour ;"
                + " rent ( x + 1 ) * " + times + " ;"), 0);
            int broken = 0;
            for (int n = 1; n < 64; n++) {
                int pane = Integer.numberOfTrailingZeros(n) % 5;
                x.breaks(pane, (broken >> pane & 1) == 1);
                broken ^= 1 << pane;
                int due = 0;
                for (int p = 0; p < 5; p++) {
                    due += (broken >> p & 1) == 1 ? 0 : (p + 1) * times * 52;
                }
                PROBE.due("rents with " + broken + " broken", x.rents(0), due);
            }
        }
    }

    private static void yields() {
        PROBE.says("YIELD of a pane; NONE: none such");
        PaneSpots x = PROBE.told(TWO + "east 0 - column ; deep 1 ; rent 7 ;");
        for (int pane = -1; pane <= 12; pane++) {
            PROBE.due("pane " + pane, x.yields(pane), pane == 0 || pane == 1 ? 3 * 1248 : NONE);
        }
        for (int far : Probe.FAR_OFF) {
            PROBE.due("pane " + far, x.yields(far), NONE);
        }
    }

    private static void rents() {
        PROBE.says("RENTS of a GUILD; NONE: none such");
        PaneSpots x = PROBE.told(TWO + "guild c likes 0 owes 0 ; east 0 - column ; deep 1 ; rent 7 ;");
        for (int guild = -1; guild <= 6; guild++) {
            PROBE.due("guild " + guild, x.rents(guild), guild == 0 || guild == 1 ? 3 * 1248 : guild == 2 ? 0 : NONE);
        }
        for (int far : Probe.FAR_OFF) {
            PROBE.due("guild " + far, x.rents(far), NONE);
        }
        PROBE.says("RENTS of a GUILD: what its panes yield");
        x.exchange(0, 1);
        x.breaks(0, false);
        PROBE.due("whose pane is broken", x.rents(1), 0);
        PROBE.due("whose is whole", x.rents(0), 7 * 1248);
    }
}
