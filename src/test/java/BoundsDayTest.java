/** The boundary cases that the document names of stalls, candles and stains (section 4, promises 18 to 24), sentence by sentence. */
public final class BoundsDayTest {
    private static final Probe PROBE = new Probe("BoundsDayTest");
    private static final int NONE = PaneSpots.NONE;
    /** A pane's light on each place of 3 by 2 but the last, each of a colour of its own, at all hours. */
    private static final String FIVE = "floor 3 2 ; guild a likes 0 owes 0 ; guild b likes 0 owes 0 ; pane 0 0 of a colour 1 ;"
        + " pane 1 0 of b colour 2 ; pane 2 0 of a colour 3 ; pane 0 1 of b colour 4 ; pane 1 1 of a colour 5 ; east 0 ; dark 0 ; ";

    public static void main(String[] args) {
        stallArguments();
        stallHours();
        ownedPlaces();
        elseAnywhere();
        steps();
        leastWay();
        eightSeen();
        see();
        candles();
        candlesCounted();
        when();
        firstOfEqual();
        clear();
        stainArguments();
        stainHours();
        stainColours();
        oneStepApart();
        onFloorAlone();
        stoodArguments();
        inAllAndInSome();
        noRow();
        PROBE.end();
    }

    /** Panes, by letters whose, with the place of each at hours 0, 1 .. (NONE: no light); dark behind these. */
    private static PaneSpots moving(String floor, String owners, int[]... places) {
        StringBuilder east = new StringBuilder("east 0-column");
        StringBuilder deep = new StringBuilder("deep 9");
        StringBuilder panes = new StringBuilder();
        for (int p = 0; p < places.length; p++) {
            panes.append("pane ").append(p).append(" 0 of ").append(owners.charAt(p)).append(" colour ").append(1 << p).append(';');
            for (int h = 0; h < places[p].length; h++) {
                String then = "(column=" + p + " and hour=" + h + ")*";
                if (places[p][h] != NONE) {
                    east.append('+').append(then).append(places[p][h] % 8);
                    deep.append('-').append(then).append(9 - places[p][h] / 8);
                }
            }
        }
        return PROBE.told("floor " + floor + ";guild a likes 0 owes 0;guild b likes 0 owes 0;dark " + (places[0].length - 1) + "<hour;"
            + panes + east + ";" + deep + ";");
    }

    private static int[] row(int... places) {
        return places;
    }

    /** The WAY of guild 0 from hour 0 on: its steps and places. */
    private static void way(String about, PaneSpots x, int steps, int... places) {
        int last = places.length - 1;
        PROBE.due(about + ", steps", x.stall(0, 7, 0, last, NONE), steps);
        for (int i = 0; i < places.length; i++) {
            PROBE.due(about + ", at " + i, x.stall(0, 7, 0, last, i), places[i]);
        }
    }

    private static void stallArguments() {
        PROBE.says("WAY of a STALL from an hour to an hour of a week, what NONE: steps; i: its place at the i-th of these hours; NONE: others");
        PaneSpots x = PROBE.told(FIVE);
        for (int guild = -1; guild <= 6; guild++) {
            PROBE.due("guild " + guild, x.stall(guild, 0, 3, 5, NONE), guild == 0 || guild == 1 ? 0 : NONE);
        }
        for (int week : new int[] {-1, 0, 51, 52}) {
            PROBE.due("week " + week, x.stall(1, week, 3, 5, 0), week == 0 || week == 51 ? 1 : NONE);
        }
        for (int what = -3; what <= 5; what++) {
            PROBE.due("what " + what, x.stall(1, 0, 3, 5, what), what == -1 ? 0 : what >= 0 && what <= 2 ? 1 : NONE);
        }
        for (int far : Probe.FAR_OFF) {
            PROBE.due("guild " + far, x.stall(far, 0, 3, 5, 0), NONE);
            PROBE.due("week " + far, x.stall(1, far, 3, 5, 0), NONE);
            PROBE.due("hour " + far, x.stall(1, 0, far, 5, 0), NONE);
            PROBE.due("last " + far, x.stall(1, 0, 3, far, 0), NONE);
            PROBE.due("both " + far, x.stall(1, 0, far, far, 0), NONE);
            PROBE.due("what " + far, x.stall(1, 0, 3, 5, far), NONE);
        }
    }

    private static void stallHours() {
        PROBE.says("at each hour of some (in one week)");
        for (int hour = -1; hour <= 24; hour++) {
            PaneSpots x = PROBE.told(FIVE);
            for (int last = -1; last <= 24; last++) {
                boolean known = hour >= 0 && last <= 23 && hour <= last;
                PROBE.due("from " + hour + " to " + last, x.stall(1, 51, hour, last, NONE), known ? 0 : NONE);
            }
        }
        PaneSpots y = PROBE.told(FIVE);
        PROBE.due("the last of a day", y.stall(1, 51, 0, 23, 23), 1);
        PROBE.due("none behind it", y.stall(1, 51, 0, 23, 24), NONE);
        PROBE.due("one hour", y.stall(1, 51, 23, 23, 0), 1);
        PROBE.due("none behind that", y.stall(1, 51, 23, 23, 1), NONE);
        PaneSpots z = moving("8 8", "aa", row(0, 0, 63, 7), row(63, 1, 62, 7));
        way("the hours behind do not count", z, 0, 0, 0);
        way("nor when they did before", z, 21, 0, 0, 62, 7);
        way("two hours again", z, 0, 0, 0);
        PROBE.due("nor those ahead", z.stall(0, 7, 2, 3, NONE), 7);
        PROBE.due("one hour, the least place", z.stall(0, 7, 2, 2, 0), 62);
    }

    private static void ownedPlaces() {
        PROBE.says("on a place that it OWNS, where there is one");
        way("its own", moving("8 8", "ab", row(9, 10), row(0, 0)), 1, 9, 10);
        way("a partner's too", moving("8 8", "ab", row(9, 10), row(9, 10)), 1, 9, 10);
        PaneSpots x = moving("8 8", "aa", row(9, 10), row(20, 20));
        way("the one that stays", x, 0, 20, 20);
        x.breaks(1, false);
        way("not by a broken pane", x, 1, 9, 10);
        PaneSpots y = moving("8 8", "ab", row(9, 10), row(20, 20));
        y.exchange(0, 1);
        way("by the pane it has now", y, 0, 20, 20);
    }

    private static void elseAnywhere() {
        PROBE.says("(else anywhere on the floor)");
        way("nowhere at all", moving("2 2", "b", row(9, 9, 9)), 0, 0, 0, 0);
        way("between: it waits", moving("8 8", "a", row(0, NONE, 9)), 2, 0, 0, 9);
        way("ahead: it waits there", moving("8 8", "a", row(NONE, NONE, 9)), 0, 9, 9, 9);
        way("behind: it stays", moving("8 8", "a", row(9, NONE, NONE)), 0, 9, 9, 9);
        way("on the way back the least place", moving("8 8", "a", row(9, NONE, 0)), 2, 9, 0, 0);
        way("from one side to the other", moving("8 8", "a", row(7, NONE, 0)), 7, 7, 0, 0);
        way("from below on the left", moving("8 8", "a", row(56, NONE, 7)), 14, 56, 0, 7);
        way("from the right above", moving("8 8", "a", row(7, NONE, 56)), 14, 7, 0, 56);
        PaneSpots x = moving("8 8", "a", row(9, 10));
        x.breaks(0, false);
        way("its pane is broken", x, 0, 0, 0);
        way("on the floor alone", moving("1 8", "b", row(9, 9)), 0, 0, 0);
    }

    private static void steps() {
        PROBE.says("it goes |x - x| + |y - y| steps from hour to hour");
        way("none", moving("8 8", "a", row(63, 63)), 0, 63, 63);
        way("one on", moving("8 8", "a", row(62, 63)), 1, 62, 63);
        way("one back", moving("8 8", "a", row(63, 62)), 1, 63, 62);
        way("one down", moving("8 8", "a", row(55, 63)), 1, 55, 63);
        way("one up", moving("8 8", "a", row(63, 55)), 1, 63, 55);
        way("across", moving("8 8", "a", row(0, 63)), 14, 0, 63);
        way("the other way across", moving("8 8", "a", row(56, 7)), 14, 56, 7);
        way("from a row's end to the next one's start", moving("8 8", "a", row(7, 8)), 8, 7, 8);
        way("forth and back", moving("8 8", "a", row(0, 63, 0)), 28, 0, 63, 0);
    }

    private static void leastWay() {
        PROBE.says("WAY: the fewest steps together; of equal ones the row of places (as y * 8 + x) that is least, hour by hour");
        way("least of one hour", moving("8 8", "aa", row(16), row(11)), 0, 11);
        way("equal at first", moving("8 8", "aa", row(2, 1), row(0, NONE)), 1, 0, 1);
        way("equal at last", moving("8 8", "aa", row(1, 2), row(NONE, 0)), 1, 1, 0);
        way("equal over two hours", moving("8 8", "aaa", row(3, 2, 0), row(NONE, 5, 7), row(NONE, NONE, 6)), 3, 3, 2, 0);
        way("farther first, fewer together", moving("8 8", "aa", row(3, 4, 0), row(3, 1, 0)), 3, 3, 1, 0);
        way("a far start that is nearer", moving("8 8", "aa", row(0, 6, 7), row(7, NONE, NONE)), 2, 7, 6, 7);
        way("the first hour ahead of all", moving("8 8", "aa", row(1, 2, 1), row(3, 2, 3)), 2, 1, 2, 1);
        way("equal in the midst", moving("8 8", "aa", row(0, 8, 9), row(0, 1, 9)), 2, 0, 1, 9);
    }

    private static void eightSeen() {
        PROBE.says("SEEN: of a place its COLOUR, 8 at most");
        PaneSpots x = PROBE.told(FIVE);
        for (int n = 1; n <= 8; n++) {
            PROBE.due("the " + n + "th", x.see(n % 3, n % 2, n - 1), n);
            PROBE.due("seen", x.count(6), n);
        }
        PROBE.due("the ninth", x.see(0, 0, 1), NONE);
        PROBE.due("eight stay", x.count(6), 8);
        PROBE.due("candles of eight", x.candles(0, 0) >= 0 && x.candles(0, 0) <= 8, true);
        x.clear();
        PROBE.due("the first again", x.see(0, 0, 1), 1);
    }

    private static void see() {
        PROBE.says("SEEN: how much is; NONE: others (colour 0 to 7), 8 are");
        PaneSpots x = PROBE.told(FIVE);
        int[][] wrong = {{-1, 0, 1}, {3, 0, 1}, {0, -1, 1}, {0, 2, 1}, {0, 0, -1}, {0, 0, 8}};
        for (int[] row : wrong) {
            PROBE.due("see " + row[0] + " " + row[1] + " " + row[2], x.see(row[0], row[1], row[2]), NONE);
        }
        for (int far : Probe.FAR_OFF) {
            PROBE.due("x " + far, x.see(far, 0, 1), NONE);
            PROBE.due("y " + far, x.see(0, far, 1), NONE);
            PROBE.due("colour " + far, x.see(0, 0, far), NONE);
        }
        PROBE.due("nothing is", x.count(6), 0);
        PROBE.due("the corner, colour 0", x.see(0, 0, 0), 1);
        PROBE.due("the other corner, colour 7", x.see(2, 1, 7), 2);
        PROBE.due("the same again", x.see(2, 1, 7), 3);
    }

    private static void candles() {
        PROBE.says("CANDLES at a TIME; NONE: others");
        PaneSpots x = PROBE.told(FIVE);
        x.see(0, 0, 7);
        for (int week = -1; week <= 52; week++) {
            PROBE.due("week " + week, x.candles(week, 0), week >= 0 && week < 52 ? 1 : NONE);
        }
        for (int hour = -1; hour <= 24; hour++) {
            PROBE.due("hour " + hour, x.candles(0, hour), hour >= 0 && hour < 24 ? 1 : NONE);
        }
        for (int far : Probe.FAR_OFF) {
            PROBE.due("week " + far, x.candles(far, 0), NONE);
            PROBE.due("hour " + far, x.candles(0, far), NONE);
        }
    }

    private static void candlesCounted() {
        PROBE.says("CANDLES at a TIME: how many of what was SEEN are unlike the COLOURS then");
        PaneSpots x = PROBE.told(FIVE);
        PROBE.due("nothing is seen", x.candles(0, 0), 0);
        x.see(0, 0, 1);
        PROBE.due("alike", x.candles(0, 0), 0);
        x.see(2, 1, 0);
        PROBE.due("alike, without light", x.candles(0, 0), 0);
        x.see(2, 1, 1);
        PROBE.due("a colour where no light is", x.candles(0, 0), 1);
        x.see(0, 0, 0);
        PROBE.due("no colour where light is", x.candles(0, 0), 2);
        x.see(2, 0, 1);
        PROBE.due("a part of its colours", x.candles(0, 0), 3);
        x.see(0, 0, 3);
        PROBE.due("more than its colours", x.candles(0, 0), 4);
        x.breaks(0, false);
        PROBE.due("broken: another is unlike, another alike", x.candles(0, 0), 4);
        x.clear();
        for (int n = 0; n < 8; n++) {
            x.see(1, 1, 7);
        }
        PROBE.due("all eight", x.candles(0, 0), 8);
    }

    private static void when() {
        PROBE.says("WHEN, what 0: week * 24 + hour, 1: CANDLES, 2: how many TIMES; NONE: another what");
        PaneSpots x = PROBE.told("floor 1 1 ; guild a likes 0 owes 0 ; pane 0 0 of a colour 5 ; east 0 ;"
            + " dark not ( week = 3 and 4 < hour and hour < 8 ) ;");
        x.see(0, 0, 5);
        x.see(0, 0, 4);
        int[] due = {3 * 24 + 5, 1, 3};
        for (int what = -2; what <= 4; what++) {
            PROBE.due("what " + what, x.when(what), what >= 0 && what < 3 ? due[what] : NONE);
        }
        for (int far : Probe.FAR_OFF) {
            PROBE.due("what " + far, x.when(far), NONE);
        }
        PaneSpots none = new PaneSpots();
        int[] all = {0, 0, 1248};
        for (int what = 0; what < 3; what++) {
            PROBE.due("nothing is seen, what " + what, none.when(what), all[what]);
        }
    }

    private static void firstOfEqual() {
        PROBE.says("WHEN: the TIME with the fewest CANDLES, of equal ones the first (week, then hour); how many TIMES have so few");
        String text = "floor 1 1 ; guild a likes 0 owes 0 ; pane 0 0 of a colour 5 ; east 0 ; dark not ( ";
        PaneSpots x = PROBE.told(text + "week = 0 and hour = 23 or week = 1 and hour = 0 ) ;");
        x.see(0, 0, 5);
        // from the left: ( ( week 0, hour 23 ) or week 1 ) and hour 0
        PROBE.due("week 1, hour 0", x.when(0), 24);
        PaneSpots y = PROBE.told(text + "( week = 0 and hour = 23 ) or ( week = 1 and hour = 0 ) ) ;");
        y.see(0, 0, 5);
        PROBE.due("a late hour of an early week", y.when(0), 23);
        PROBE.due("two", y.when(2), 2);
        PaneSpots last = PROBE.told(text + "week = 51 and hour = 23 ) ;");
        last.see(0, 0, 5);
        PROBE.due("the last of all", last.when(0), 1247);
        PROBE.due("one", last.when(2), 1);
        last.clear();
        last.see(0, 0, 0);
        PROBE.due("the first of all", last.when(0), 0);
        PROBE.due("all but one", last.when(2), 1247);
        last.see(0, 0, 7);
        PROBE.due("none without a candle", last.when(1), 1);
        for (int n = 2; n < 8; n++) {
            last.see(0, 0, 7);
        }
        PROBE.due("seven, when it is dark", last.when(1), 7);
        last.clear();
        for (int n = 0; n < 8; n++) {
            last.see(0, 0, 7);
        }
        PROBE.due("eight at any time", last.when(1), 8);
        PROBE.due("the first then", last.when(0), 0);
        PROBE.due("all times", last.when(2), 1248);
    }

    private static void clear() {
        PROBE.says("Nothing is SEEN: true");
        PaneSpots x = PROBE.told(FIVE);
        PROBE.due("of nothing", x.clear(), true);
        x.see(0, 0, 7);
        PROBE.due("of one", x.clear(), true);
        PROBE.due("seen", x.count(6), 0);
        PROBE.due("candles", x.candles(0, 0), 0);
        x.breaks(0, false);
        x.clear();
        PROBE.due("no more than that", x.count(4) * 10 + x.count(5), 11);
    }

    private static void stainArguments() {
        PROBE.says("STAINS: how many rows of places; NONE: others, beyond hour 23");
        PaneSpots x = PROBE.told(FIVE);
        for (int week : new int[] {-1, 0, 51, 52}) {
            PROBE.due("week " + week, x.stains(week, 0, 1, 1), week == 0 || week == 51 ? 1 : NONE);
            PROBE.due("stood, week " + week, x.stood(week, 0, 1, 1, 0, true), week == 0 || week == 51 ? 1 : NONE);
        }
        for (int hour = -1; hour <= 24; hour++) {
            for (int hours = 0; hours <= 7; hours++) {
                boolean known = hour >= 0 && hours >= 1 && hours <= 6 && hour + hours <= 24;
                int colours = 0;
                for (int i = 0; i < hours && i < 6; i++) {
                    colours = colours * 8 + 1;
                }
                PROBE.due("hour " + hour + ", hours " + hours, x.stains(0, hour, hours, colours), known ? 1 : NONE);
            }
        }
        for (int far : Probe.FAR_OFF) {
            PROBE.due("week " + far, x.stains(far, 0, 1, 1), NONE);
            PROBE.due("hour " + far, x.stains(0, far, 1, 1), NONE);
            PROBE.due("hours " + far, x.stains(0, 0, far, 1), NONE);
            PROBE.due("hours " + far + " from 23", x.stains(0, 23, far, 1), NONE);
            PROBE.due("colours " + far, x.stains(0, 0, 1, far), NONE);
        }
    }

    private static void stainHours() {
        PROBE.says("hour by hour, 6 at most, from a TIME on in one week");
        PaneSpots x = PROBE.told("floor 2 1 ;");
        for (int hours = 1; hours <= 6; hours++) {
            PROBE.due("two places, hours " + hours, x.stains(0, 0, hours, 0), 1 << hours);
            PROBE.due("to hour 23", x.stains(51, 24 - hours, hours, 0), 1 << hours);
            PROBE.due("beyond it", x.stains(51, 25 - hours, hours, 0), NONE);
        }
        PROBE.due("seven", x.stains(0, 0, 7, 0), NONE);
    }

    private static void stainColours() {
        PROBE.says("a row of colours as digits to the base of 8, the first the lowest; so many hours");
        PaneSpots x = PROBE.told(FIVE);
        int most = 1;
        for (int hours = 1; hours <= 6; hours++) {
            most *= 8;
            PROBE.due("all 7, hours " + hours, x.stains(0, 0, hours, most - 1), 0);
            PROBE.due("a digit too many, hours " + hours, x.stains(0, 0, hours, most), NONE);
            PROBE.due("likewise stood, hours " + hours, x.stood(0, 0, hours, most, 0, true), NONE);
            PROBE.due("below 0, hours " + hours, x.stains(0, 0, hours, -1), NONE);
            PROBE.due("likewise stood below 0", x.stood(0, 0, hours, -1, 0, true), NONE);
        }
        // colours of places 0 to 5: 1 2 3, 4 5 0
        for (int colour = 0; colour <= 7; colour++) {
            PROBE.due("colour " + colour, x.stains(0, 0, 1, colour), colour <= 5 ? 1 : 0);
        }
        PaneSpots y = moving("8 8", "ab", row(0, 1), row(1, 0));
        PROBE.due("red, then yellow: it stays", y.stood(0, 0, 2, 1 + 8 * 2, 0, false), 1);
        PROBE.due("yellow, then red", y.stood(0, 0, 2, 2 + 8, 0, false), 2);
    }

    private static void oneStepApart() {
        PROBE.says("on places at most one step apart from hour to hour");
        int[] middle = {27, 26, 28, 19, 35};
        for (int to = 0; to < 64; to++) {
            boolean near = false;
            for (int place : middle) {
                near |= place == to;
            }
            PaneSpots x = moving("8 8", "ab", row(27, NONE), row(NONE, to));
            PROBE.due("from 27 to " + to, x.stains(0, 0, 2, 1 + 8 * 2), near ? 1 : 0);
        }
        PROBE.due("no row's end is near the next one's start", moving("8 8", "ab", row(7, NONE), row(NONE, 8)).stains(0, 0, 2, 17), 0);
        PROBE.due("nor back", moving("8 8", "ab", row(8, NONE), row(NONE, 7)).stains(0, 0, 2, 17), 0);
        PROBE.due("nor the first near the last", moving("8 8", "ab", row(0, NONE), row(NONE, 63)).stains(0, 0, 2, 17), 0);
        PROBE.due("nor back", moving("8 8", "ab", row(63, NONE), row(NONE, 0)).stains(0, 0, 2, 17), 0);
        PROBE.due("nor above near below", moving("8 8", "ab", row(0, NONE), row(NONE, 56)).stains(0, 0, 2, 17), 0);
        PROBE.due("in dark, 8 by 8", PROBE.told("floor 8 8 ;").stains(0, 0, 2, 0), 64 + 4 * 56);
        PROBE.due("in dark, 3 by 1, three hours", PROBE.told("floor 3 1 ;").stains(0, 0, 3, 0), 5 + 7 + 5);
    }

    private static void onFloorAlone() {
        PROBE.says("how many rows of places there are by which that is so");
        for (int wide = 1; wide <= 8; wide++) {
            for (int deep = 1; deep <= 8; deep++) {
                PaneSpots x = PROBE.told("floor " + wide + " " + deep + " ;");
                PROBE.due("one hour", x.stains(0, 0, 1, 0), wide * deep);
                int pairs = (wide - 1) * deep + wide * (deep - 1);
                PROBE.due("two hours", x.stains(0, 0, 2, 0), wide * deep + 2 * pairs);
            }
        }
        PROBE.due("one place, six hours", PROBE.told("floor 1 1 ;").stains(0, 0, 6, 0), 1);
    }

    private static void stoodArguments() {
        PROBE.says("GUILDS in whose light one was at the i-th hour; NONE: likewise");
        PaneSpots x = PROBE.told(FIVE);
        for (int hours = 1; hours <= 6; hours++) {
            int colours = ((1 << 3 * hours) - 1) / 7;
            for (int i = -2; i <= 8; i++) {
                int due = i >= 0 && i < hours ? 1 : NONE;
                PROBE.due("i " + i + " of " + hours, x.stood(0, 24 - hours, hours, colours, i, true), due);
                PROBE.due("in all, i " + i + " of " + hours, x.stood(0, 24 - hours, hours, colours, i, false), due);
            }
            PROBE.due("beyond hour 23", x.stood(0, 25 - hours, hours, colours, 0, true), NONE);
        }
        PaneSpots dark = PROBE.told("floor 2 1 ;");
        for (int hours = 1; hours <= 6; hours++) {
            for (int i = -2; i <= 8; i++) {
                PROBE.due("in dark, i " + i + " of " + hours, dark.stood(0, 0, hours, 0, i, true), i >= 0 && i < hours ? 0 : NONE);
                PROBE.due("in all, in dark, i " + i + " of " + hours, dark.stood(0, 0, hours, 0, i, false), i >= 0 && i < hours ? 0 : NONE);
            }
        }
        PROBE.due("0 hours", x.stood(0, 0, 0, 0, 0, true), NONE);
        PROBE.due("7 hours", x.stood(0, 0, 7, 0, 0, true), NONE);
        PROBE.due("hour -1", x.stood(0, -1, 1, 1, 0, true), NONE);
        PROBE.due("hour 24", x.stood(0, 24, 1, 1, 0, true), NONE);
        for (int far : Probe.FAR_OFF) {
            PROBE.due("week " + far, x.stood(far, 0, 1, 1, 0, true), NONE);
            PROBE.due("hour " + far, x.stood(0, far, 1, 1, 0, true), NONE);
            PROBE.due("hours " + far, x.stood(0, 0, far, 1, 0, true), NONE);
            PROBE.due("colours " + far, x.stood(0, 0, 1, far, 0, true), NONE);
            PROBE.due("i " + far, x.stood(0, 0, 1, 1, far, true), NONE);
        }
    }

    private static void inAllAndInSome() {
        PROBE.says("GUILDS that own the place of the i-th hour in all of these, in some");
        // hour 0: red of a on 0 and of b on 2; hour 1: yellow of b on 1
        PaneSpots x = PROBE.told("floor 3 1 ; guild a likes 0 owes 0 ; guild b likes 0 owes 0 ; guild c likes 0 owes 0 ;"
            + " pane 0 0 of a colour 1 ; pane 2 0 of b colour 1 ; pane 1 1 of b colour 2 ; dark 1 < hour ; east 0 ;"
            + " deep ( row = hour ) - 1 ;");
        PROBE.due("rows", x.stains(0, 0, 2, 1 + 8 * 2), 2);
        PROBE.due("first hour, in all", x.stood(0, 0, 2, 17, 0, false), 0);
        PROBE.due("first hour, in some", x.stood(0, 0, 2, 17, 0, true), 3);
        PROBE.due("second hour, in all", x.stood(0, 0, 2, 17, 1, false), 2);
        PROBE.due("second hour, in some", x.stood(0, 0, 2, 17, 1, true), 2);
        x.exchange(0, 1);
        PROBE.due("exchanged: in some", x.stood(0, 0, 2, 17, 0, true), 3);
        x.breaks(1, false);
        PROBE.due("one row is left", x.stains(0, 0, 2, 17), 1);
        PROBE.due("in all then", x.stood(0, 0, 2, 17, 0, false), 2);
        PROBE.due("no light: nobody's in all", x.stood(0, 5, 1, 0, 0, false), 0);
        PROBE.due("no light: nobody's in some", x.stood(0, 5, 1, 0, 0, true), 0);
        // a place that no row goes on by counts for nothing
        PaneSpots y = moving("8 1", "aab", row(0, 1), row(5, NONE), row(5, NONE));
        PROBE.due("red at 0, then at 1: a alone", y.stood(0, 0, 2, 1 + 8, 0, true), 1);
        PROBE.due("yellow and blue at 5: a and b", y.stood(0, 0, 1, 6, 0, false), 3);
    }

    private static void noRow() {
        PROBE.says("NONE: likewise, no row");
        PaneSpots x = PROBE.told(FIVE);
        PROBE.due("no such colour", x.stains(0, 0, 1, 7), 0);
        PROBE.due("in all", x.stood(0, 0, 1, 7, 0, false), NONE);
        PROBE.due("in some", x.stood(0, 0, 1, 7, 0, true), NONE);
        // red and violet are two steps apart
        PROBE.due("too far", x.stains(0, 0, 2, 1 + 8 * 5), 0);
        for (int i = 0; i < 2; i++) {
            PROBE.due("too far, in all at " + i, x.stood(0, 0, 2, 41, i, false), NONE);
            PROBE.due("too far, in some at " + i, x.stood(0, 0, 2, 41, i, true), NONE);
        }
        PROBE.due("the last hour fails", x.stood(0, 0, 3, 1 + 8 + 64 * 7, 0, true), NONE);
        PROBE.due("the first hour fails", x.stood(0, 0, 3, 7 + 8 + 64, 2, true), NONE);
    }
}
