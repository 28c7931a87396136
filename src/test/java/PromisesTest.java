import java.util.NoSuchElementException;

/** Each promise of the document by itself, with answers worked out by hand. */
public final class PromisesTest {
    private static final String TWO_GUILDS = "floor 3 2 ; guild dyers likes 1 owes 1000 ; guild bakers likes 6 owes 500 ;"
        + " pane 0 0 of dyers colour 1 ; pane 1 0 of bakers colour 2 ; pane 0 1 of bakers colour 4 ;"
        + " dark hour < 12 or 13 < hour ;";
    /** All light falls on one place, once a week; three panes give 30 each then, two 20 each, one 10. */
    private static final String CASCADE = "floor 1 1 ; guild a likes 0 owes 1561 ; guild b likes 0 owes 1041 ;"
        + " guild c likes 0 owes 521 ; guild d likes 7 owes 9999 ; pane 0 0 of a colour 1 ; pane 1 0 of b colour 2 ;"
        + " pane 2 0 of c colour 4 ; east 0 - column ; deep 0 ; dark hour ; rent mixed * mixed * 10 ;";
    private static final int NONE = PaneSpots.NONE;
    private static final int[] WILD = {Integer.MIN_VALUE, -2, Integer.MAX_VALUE};

    private static final Probe PROBE = new Probe("PromisesTest");

    public static void main(String[] args) {
        newObject();
        feed();
        chapel();
        guildAndPane();
        spotAndPlace();
        laws();
        yieldsAndRents();
        worthAndGain();
        best();
        bestOfEqualOnes();
        exchangeAndBreaks();
        falls();
        sixRounds();
        undo();
        stall();
        stallWhereNothingIsOwned();
        seeCandlesWhen();
        stains();
        stood();
        clouded();
        mark();
        count();
        PROBE.end();
    }

    private static void due(String call, long got, long want) {
        PROBE.due(call, got, want);
    }

    private static void due(String call, boolean got, boolean want) {
        PROBE.due(call, got, want);
    }

    // Promise 1
    private static void newObject() {
        PaneSpots x = new PaneSpots();
        int[] counts = {4, 4, 0, 0, 0, 0, 0, 0, 0};
        for (int i = 0; i < counts.length; i++) {
            due("new, count " + i, x.count(i), counts[i]);
        }
        due("new, spot", x.spot(0, 0, 12), NONE);
        due("new, place in the corner", x.place(3, 3, 51, 23, 0), 0);
        due("new, place beyond", x.place(4, 3, 0, 12, 0), NONE);
        due("new, best", x.best(NONE), 0);
        due("new, best of a pane", x.best(0), NONE);
        due("new, fallen", x.fallen(), 0);
        due("new, falls", x.falls(0), NONE);
        due("new, when", x.when(2), 1248);
        due("new, undo", x.undo(), false);
        for (int mark = 0; mark < 4; mark++) {
            due("new, mark " + mark, x.mark(mark, true), false);
        }
        due("new, see", x.see(3, 3, 7), 1);
        due("new, stains", x.stains(0, 0, 2, 0), 16 + 2 * 24);
        due("new, stood", x.stood(0, 0, 2, 0, 1, true), 0);
        due("NONE", NONE, -1);
    }

    // Promise 2
    private static void feed() {
        PaneSpots x = new PaneSpots();
        due("nothing", x.feed(0, 0, 0), 0);
        due("others left out", x.feed(0x1F7F80FF090D0B00L, -1L, 0x00FF200A7E610000L), 4);
        due("highest first", x.feed(0x666C6F6F72203120L, 0x39L, 0), 4 + 9);
        // 32 10 126 then is the first token, at 2
        due("read", x.chapel(), 2 * 16 + 1);
        due("taken", x.count(8), 0);
        for (int i = 0; i < 41; i++) {
            due("24 more", x.feed(0x2020202020202020L, 0x2020202020202020L, 0x2020202020202020L), 24 * (i + 1));
        }
        due("8 more", x.feed(0x2020202020202020L, 0, 0), 992);
        due("1,000 at most", x.feed(0x2020202020202061L, 0x6161616161616161L, 0x6161616161616161L), 1000);
        due("full", x.feed(0x61L, 0, 0), 1000);
        due("the 1,000th sign is a token", x.chapel(), 999 * 16 + 1);
        PaneSpots y = new PaneSpots();
        Probe.feed(y, "floor 2 ");
        Probe.feed(y, "3 ;");
        due("in the order fed", y.chapel(), 0);
        due("wide", y.count(0), 2);
        due("deep", y.count(1), 3);
    }

    // Promise 3; FaultsTest has the FAULTS
    private static void chapel() {
        PaneSpots x = PROBE.told(TWO_GUILDS);
        x.breaks(0, false);
        x.exchange(0, 1);
        x.see(0, 0, 1);
        x.mark(0, false);
        Probe.feed(x, "floor 1 1 ; wrong");
        due("fault", x.chapel(), 12 * 16 + 1);
        due("the tape is taken all the same", x.count(8), 0);
        due("all stays: wide", x.count(0), 3);
        due("all stays: panes", x.count(3), 3);
        due("all stays: broken", x.count(4), 1);
        due("all stays: undo", x.count(5), 2);
        due("all stays: seen", x.count(6), 1);
        due("all stays: owner", x.pane(0, 2), 1);
        due("all stays: mark", x.mark(0, true), true);
        x.breaks(1, false);
        due("again", Probe.tell(x, TWO_GUILDS), 0);
        due("whole", x.count(4), 0);
        due("nothing can be undone", x.count(5), 0);
        due("nothing is seen", x.count(6), 0);
        due("no mark", x.mark(0, true), false);
        due("owners as told", x.pane(0, 2), 0);
        due("an empty tape is a chapel", x.chapel(), 0);
        due("floor without a line", x.count(0) * 10 + x.count(1), 44);
        due("no pane", x.count(3), 0);
        due("no guild", x.count(2), 0);
        due("tokens need no blanks", Probe.tell(x, "floor3\n2;guild week likes7owes9999;pane7 3of week colour7;cloud8;"), 0);
        due("a fact's word as a name", x.pane(0, 2), 0);
    }

    // Promises 4 and 5
    private static void guildAndPane() {
        PaneSpots x = PROBE.told(TWO_GUILDS);
        int[][] guilds = {{1, 1000, 1}, {6, 500, 6}};
        int[][] panes = {{0, 0, 0, 1, 0}, {1, 0, 1, 2, 0}, {0, 1, 1, 4, 0}};
        for (int g = 0; g < 2; g++) {
            for (int what = 0; what < 3; what++) {
                due("guild " + g + " " + what, x.guild(g, what), guilds[g][what]);
            }
        }
        for (int p = 0; p < 3; p++) {
            for (int what = 0; what < 5; what++) {
                due("pane " + p + " " + what, x.pane(p, what), panes[p][what]);
            }
        }
        x.breaks(2, false);
        due("pane broken", x.pane(2, 4), 1);
        due("a broken pane is its guild's", x.guild(1, 2), 6);
        for (int wild : WILD) {
            due("guild wild", x.guild(wild, 0) + x.guild(0, wild), 2 * NONE);
            due("pane wild", x.pane(wild, 0) + x.pane(0, wild), 2 * NONE);
        }
        due("guild -1", x.guild(-1, 0), NONE);
        due("guild 2", x.guild(2, 0), NONE);
        due("guild what 3", x.guild(0, 3), NONE);
        due("guild what -1", x.guild(0, -1), NONE);
        due("pane 3", x.pane(3, 0), NONE);
        due("pane -1", x.pane(-1, 0), NONE);
        due("pane what 5", x.pane(0, 5), NONE);
        due("pane what -1", x.pane(0, -1), NONE);
    }

    // Promises 6 and 7
    private static void spotAndPlace() {
        PaneSpots x = PROBE.told(TWO_GUILDS);
        due("spot 0 at 12", x.spot(0, 0, 12), 0);
        due("spot 1 at 13", x.spot(1, 51, 13), 2);
        due("spot 2 at 13", x.spot(2, 7, 13), 9);
        due("dark", x.spot(0, 0, 14), NONE);
        due("no week 52", x.spot(0, 52, 12), NONE);
        due("no week -1", x.spot(0, -1, 12), NONE);
        due("no hour 24", x.spot(0, 0, 24), NONE);
        due("no hour -1", x.spot(0, 0, -1), NONE);
        due("no pane 3", x.spot(3, 0, 12), NONE);
        due("no pane -1", x.spot(-1, 0, 12), NONE);
        x.breaks(0, false);
        due("broken", x.spot(0, 0, 12), NONE);
        due("place of a broken pane", x.place(0, 0, 0, 12, 2), 0);

        PaneSpots m = PROBE.told(CASCADE);
        due("partners", m.place(0, 0, 9, 0, 0), 7);
        due("colours together", m.place(0, 0, 9, 0, 1), 7);
        due("panes", m.place(0, 0, 9, 0, 2), 3);
        m.breaks(1, false);
        due("partners, one broken", m.place(0, 0, 9, 0, 0), 5);
        due("colours, one broken", m.place(0, 0, 9, 0, 1), 5);
        m.exchange(0, 2);
        m.exchange(1, 0);
        due("partners, exchanged", m.place(0, 0, 9, 0, 0), 3);
        due("dark: no owner", m.place(0, 0, 9, 1, 0), 0);
        due("dark: no colour", m.place(0, 0, 9, 1, 1), 0);
        due("what 3", m.place(0, 0, 9, 0, 3), NONE);
        due("what -1", m.place(0, 0, 9, 0, -1), NONE);
        due("x 1", m.place(1, 0, 9, 0, 0), NONE);
        due("y 1", m.place(0, 1, 9, 0, 0), NONE);
        due("x -1", m.place(-1, 0, 9, 0, 0), NONE);
        due("y -1", m.place(0, -1, 9, 0, 0), NONE);
        due("week 52", m.place(0, 0, 52, 0, 0), NONE);
        due("hour 24", m.place(0, 0, 0, 24, 0), NONE);
    }

    /** What an E answers, seen as how deep the light of a pane falls. */
    private static int deepOf(String e, int week, int hour) {
        PaneSpots x = PROBE.told("floor 8 8 ; guild a likes 0 owes 0 ; pane 3 2 of a colour 1 ; dark 0 ; east 0 ; deep " + e + " ;");
        int spot = x.spot(0, week, hour);
        return spot == NONE ? NONE : spot / 8;
    }

    private static void laws() {
        due("column, row", deepOf("column * 2 - row", 0, 0), 4);
        due("from the left", deepOf("5 - 3 - 1", 0, 0), 1);
        due("* ahead of +", deepOf("1 + 2 * 3", 0, 0), 7);
        due("( )", deepOf("( 1 + 1 ) * 3", 0, 0), 6);
        due("+ ahead of <", deepOf("1 + 1 < 1 + 2", 0, 0), 1);
        due("< not so", deepOf("2 < 2", 0, 0), 0);
        due("=", deepOf("2 = 1 + 1", 0, 0), 1);
        due("and, or from the left", deepOf("1 or 1 and 0", 0, 0), 0);
        due("or behind and", deepOf("0 and 0 or 5", 0, 0), 1);
        due("and gives 1", deepOf("5 and 7", 0, 0), 1);
        due("not binds a part", deepOf("not 0 + 2", 0, 0), 3);
        due("not of what is not 0", deepOf("not 7", 0, 0), 0);
        due("not not", deepOf("not not 5", 0, 0), 1);
        due("below 0 is so", deepOf("( 0 - 1 ) and 1", 0, 0), 1);
        due("ints wrap", deepOf("( 9999 * 9999 * 9999 * 9999 < 0 ) + ( 9999 * 9999 * 9999 < 0 ) * 2", 0, 0),
            (9999 * 9999 * 9999 * 9999 < 0 ? 1 : 0) + (9999 * 9999 * 9999 < 0 ? 2 : 0));
        due("week", deepOf("week - 49", 51, 0), 2);
        due("hour", deepOf("hour - 20", 0, 23), 3);
        due("beyond the floor", deepOf("8", 0, 0), NONE);
        due("below the floor", deepOf("0 - 1", 0, 0), NONE);
        due("four levels", deepOf("( ( ( not 0 ) ) ) + ( ( ( ( 2 ) ) ) )", 0, 0), 3);
        due("0007 is 7", deepOf("0007", 0, 0), 7);
        PaneSpots x = PROBE.told("floor 8 4 ; guild az likes 0 owes 0 ; pane 0 3 of az colour 1 ;");
        due("without lines, hour 12", x.spot(0, 0, 12), 24);
        due("without lines, hour 18", x.spot(0, 0, 18), 30);
        due("without lines, hour 19", x.spot(0, 0, 19), NONE);
        due("without lines, hour 11", x.spot(0, 0, 11), NONE);
        due("without lines, the year", x.yields(0), 7 * 52);
        PaneSpots y = PROBE.told("floor 8 4 ; guild a likes 0 owes 0 ; pane 7 0 of a colour 1 ;");
        due("without lines, hour 5 is dark", y.spot(0, 0, 5), NONE);
        due("without lines, hour 6", y.spot(0, 0, 6), 1);
        PaneSpots z = PROBE.told("floor 8 8 ; guild a likes 0 owes 0 ; pane 0 0 of a colour 1 ; pane 1 0 of a colour 1 ;"
            + " dark week or hour ; east 4 - column ; deep 6 ; rent x * 100 + y * 10 + mixed + week + hour ;");
        due("x, y, mixed", z.yields(0), 462 / 2);
    }

    // Promises 8 and 9
    private static void yieldsAndRents() {
        PaneSpots x = PROBE.told(TWO_GUILDS);
        due("yields", x.yields(0), 104);
        due("rents of two panes", x.rents(1), 208);
        x.breaks(1, false);
        due("yields of a broken one", x.yields(1), 0);
        due("rents with one broken", x.rents(1), 104);
        due("yields 3", x.yields(3), NONE);
        due("yields -1", x.yields(-1), NONE);
        due("rents 2", x.rents(2), NONE);
        due("rents -1", x.rents(-1), NONE);
        PaneSpots m = PROBE.told(CASCADE);
        due("shared by three", m.yields(0), 30 * 52);
        m.breaks(0, false);
        due("shared by two", m.yields(1), 20 * 52);
        m.breaks(1, false);
        due("alone", m.yields(2), 10 * 52);
        due("rents of a guild without a pane", m.rents(3), 0);
        m.breaks(0, true);
        due("mended", m.yields(0), 20 * 52);
        String one = "floor 1 1 ; guild a likes 0 owes 0 ; pane 0 0 of a colour 1 ; pane 0 1 of a colour 1 ; pane 0 2 of a colour 1 ;"
            + " east 0 ; deep 0 ; dark week or hour ; rent ";
        due("cut", PROBE.told(one + "8 ;").yields(1), 2);
        due("999 if above", PROBE.told(one + "1000 ;").yields(2), 333);
        due("998", PROBE.told(one + "998 ;").yields(2), 332);
        due("0 if below", PROBE.told(one + "0 - 500 ;").yields(0), 0);
        due("wrapped below", PROBE.told(one + "9999 * 9999 * 9999 * ( 0 - 1 ) ;").yields(0), -9999 * 9999 * 9999 < 0 ? 0 : 333);
    }

    // Promises 10 and 11
    private static void worthAndGain() {
        PaneSpots x = PROBE.told("floor 8 1 ; guild a likes 6 owes 0 ; guild b likes 1 owes 0 ; guild c likes 0 owes 0 ;"
            + " pane 0 0 of a colour 1 ; pane 1 0 of b colour 7 ; pane 2 0 of a colour 3 ; pane 3 0 of c colour 4 ;"
            + " east 0 ; dark week or hour ; rent 10 + x ;");
        // yields 10, 11, 12, 13
        due("worth, no colour liked", x.worth(0, 0), 10);
        due("worth, two liked", x.worth(0, 1), 33);
        due("worth, one liked", x.worth(0, 2), 24);
        due("worth to another", x.worth(1, 0), 20);
        due("worth to who likes none", x.worth(2, 1), 11);
        due("worth guild 3", x.worth(3, 0), NONE);
        due("worth guild -1", x.worth(-1, 0), NONE);
        due("worth pane 4", x.worth(0, 4), NONE);
        due("worth pane -1", x.worth(0, -1), NONE);
        // to b pane 1 is worth 22, pane 0 20, pane 2 24
        due("one would lose", x.gain(0, 1), 0);
        due("fair", x.gain(2, 1), 33 - 24 + (24 - 22));
        due("fair the other way round", x.gain(1, 2), 11);
        due("of one guild", x.gain(0, 2), NONE);
        due("the same pane", x.gain(1, 1), NONE);
        due("no pane 4", x.gain(0, 4), NONE);
        due("no pane -1", x.gain(-1, 0), NONE);
        x.exchange(1, 2);
        due("done, it is fair no more", x.gain(1, 2), 0);
        due("and pane 0 is of one guild with pane 1", x.gain(0, 1), NONE);
        PaneSpots even = PROBE.told("floor 2 1 ; guild a likes 2 owes 0 ; guild b likes 2 owes 0 ; pane 0 0 of a colour 1 ;"
            + " pane 1 0 of b colour 2 ; east 0 ; dark hour ;");
        due("worth as much is not more", even.gain(0, 1), 0);
    }

    // Promise 12
    private static void best() {
        // to a pane i of b is worth twice its own, and the other way round
        PaneSpots x = PROBE.told("floor 8 1 ; guild a likes 2 owes 0 ; guild b likes 1 owes 0 ;"
            + " pane 0 0 of a colour 1 ; pane 1 0 of a colour 1 ; pane 2 0 of b colour 2 ; pane 3 0 of b colour 2 ;"
            + " pane 4 0 of b colour 4 ; east 0 ; dark week or hour ; rent 10 + ( x = 1 ) * 2 + ( x = 2 ) * 3 ;");
        // yields 10 12 13 10 10; worth to a: 10 12 26 20 10, to b: 20 24 13 10 10
        due("gain 0 2", x.gain(0, 2), 16 + 7);
        due("gain 0 3", x.gain(0, 3), 10 + 10);
        due("gain 1 2", x.gain(1, 2), 14 + 11);
        due("gain 1 3", x.gain(1, 3), 8 + 14);
        due("gain 0 4", x.gain(0, 4), 0);
        due("together", x.best(NONE), 45);
        // 0-2, 1-3 and 0-3, 1-2 are both worth 45: the least row is 2 3 0 1
        int[] row = {2, 3, 0, 1, 4};
        for (int p = 0; p < row.length; p++) {
            due("best " + p, x.best(p), row[p]);
        }
        due("best 5", x.best(5), NONE);
        due("best -2", x.best(-2), NONE);
        for (int wild : WILD) {
            due("best wild", x.best(wild), NONE);
        }
        x.breaks(3, false);
        due("of a broken one comes no gain", x.best(NONE), 25);
        due("the better one", x.best(1), 2);
        due("the other is left", x.best(0), 0);
        due("nothing is done by asking", x.pane(1, 2), 0);
    }

    private static void bestOfEqualOnes() {
        // pane 2 of b is wanted by 0 and 1 of a, all give alike: pane 0 itself is least
        PaneSpots x = PROBE.told("floor 8 1 ; guild a likes 2 owes 0 ; guild b likes 1 owes 0 ;"
            + " pane 0 0 of a colour 1 ; pane 1 0 of a colour 1 ; pane 2 0 of b colour 2 ; east 0 ; dark hour ;");
        due("equal: gain", x.best(NONE), 2 * 52);
        due("equal: 0 stays", x.best(0), 0);
        due("equal: 1 goes", x.best(1), 2);
        due("equal: 2 goes", x.best(2), 1);
        // pane 0 of b may have 1 or 2 of a: the least other one is 1
        PaneSpots y = PROBE.told("floor 8 1 ; guild a likes 2 owes 0 ; guild b likes 1 owes 0 ;"
            + " pane 0 0 of b colour 2 ; pane 1 0 of a colour 1 ; pane 2 0 of a colour 1 ; east 0 ; dark hour ;");
        due("equal: with the first", y.best(0), 1);
        due("equal: the last stays", y.best(2), 2);
    }

    // Promises 13 and 14
    private static void exchangeAndBreaks() {
        PaneSpots x = PROBE.told(TWO_GUILDS);
        due("not fair, by hand", x.exchange(0, 1), true);
        due("pane 0", x.pane(0, 2), 1);
        due("pane 1", x.pane(1, 2), 0);
        due("bits", x.guild(1, 2), 5);
        due("of one guild", x.exchange(0, 2), false);
        due("itself", x.exchange(0, 0), false);
        due("no pane 3", x.exchange(0, 3), false);
        due("no pane -1", x.exchange(-1, 0), false);
        due("break", x.breaks(1, false), true);
        due("it is so", x.breaks(1, false), false);
        due("a broken one may be exchanged", x.exchange(1, 2), true);
        due("and is broken still", x.pane(1, 4), 1);
        due("mend a whole one", x.breaks(0, true), false);
        due("mend", x.breaks(1, true), true);
        due("whole", x.pane(1, 4), 0);
        due("break no pane 3", x.breaks(3, false), false);
        due("break no pane -1", x.breaks(-1, false), false);
        due("mend no pane 3", x.breaks(3, true), false);
        due("what was refused is not undone", x.count(5), 4);
        for (int wild : WILD) {
            due("wild", x.exchange(wild, 0) || x.exchange(0, wild) || x.breaks(wild, false) || x.breaks(wild, true), false);
        }
    }

    // Promises 15 and 16
    private static void falls() {
        PaneSpots x = PROBE.told(CASCADE);
        due("fallen one after another", x.fallen(), 7);
        for (int g = 0; g < 3; g++) {
            due("round of " + g, x.falls(g), g + 1);
        }
        due("without a pane it stands", x.falls(3), 0);
        due("falls 4", x.falls(4), NONE);
        due("falls -1", x.falls(-1), NONE);
        due("it is not done", x.yields(0), 30 * 52);
        due("nor can it be undone", x.undo(), false);
        PaneSpots less = PROBE.told(CASCADE.replace("1561", "1560"));
        due("as much as it owes", less.fallen(), 0);
        less.breaks(1, false);
        due("one broken: first a", less.falls(0), 1);
        due("all its panes broken: it stands", less.falls(1), 0);
        due("then c", less.falls(2), 2);
        PaneSpots c = PROBE.told(CASCADE.replace("521", "520"));
        due("the last stands", c.fallen(), 3);
        due("the last stands, 0", c.falls(2), 0);
        PaneSpots once = PROBE.told(CASCADE.replace("1041", "1561").replace("521", "1561"));
        due("all at once", once.falls(0) * 100 + once.falls(1) * 10 + once.falls(2), 111);
        PaneSpots two = PROBE.told(CASCADE + " pane 3 0 of a colour 1 ;");
        // four panes give 40 each, 80 of it a's
        due("two panes: it has enough", two.fallen(), 0);
        two.breaks(0, false);
        due("one broken, the other gives light still", two.falls(0), 1);
    }

    /** Six panes on one place give 60 each, five 50, and so on: each GUILD falls by the one ahead of it. */
    private static void sixRounds() {
        StringBuilder text = new StringBuilder("floor 1 1 ; east 0 - column ; deep 0 ; dark hour ; rent mixed * mixed * 10 ;");
        for (int g = 0; g < 6; g++) {
            text.append(" guild ").append((char) ('u' + g)).append(" likes 0 owes ").append((6 - g) * 520 + 1).append(" ;")
                .append(" pane ").append(g).append(" 0 of ").append((char) ('u' + g)).append(" colour 1 ;");
        }
        PaneSpots x = PROBE.told(text.toString());
        due("all six", x.fallen(), 63);
        for (int g = 0; g < 6; g++) {
            due("six rounds, " + g, x.falls(g), g + 1);
        }
    }

    // Promise 17
    private static void undo() {
        PaneSpots x = PROBE.told(TWO_GUILDS);
        x.exchange(0, 1);
        x.breaks(2, false);
        x.breaks(2, true);
        due("three", x.count(5), 3);
        due("undo the mending", x.undo(), true);
        due("broken", x.pane(2, 4), 1);
        due("undo the break", x.undo(), true);
        due("whole", x.pane(2, 4), 0);
        due("undo the exchange", x.undo(), true);
        due("as told", x.pane(0, 2), 0);
        due("nothing", x.undo(), false);
        for (int i = 0; i < 13; i++) {
            x.breaks(0, i % 2 == 1);
            x.breaks(1, i % 2 == 1);
        }
        due("20 at most", x.count(5), 20);
        for (int i = 0; i < 20; i++) {
            due("undo " + i, x.undo(), true);
        }
        due("the 21st", x.undo(), false);
        due("as it was behind the sixth doing", x.count(4), 2);
        due("count", x.count(5), 0);
    }

    // Promise 18
    private static void stall() {
        PaneSpots x = PROBE.told(TWO_GUILDS);
        due("steps", x.stall(1, 0, 12, 13, NONE), 1);
        due("at first", x.stall(1, 0, 12, 13, 0), 1);
        due("at last", x.stall(1, 0, 12, 13, 1), 2);
        due("one hour", x.stall(1, 0, 13, 13, NONE), 0);
        due("one hour, place", x.stall(1, 0, 13, 13, 0), 2);
        due("beyond the last", x.stall(1, 0, 12, 13, 2), NONE);
        due("what -2", x.stall(1, 0, 12, 13, -2), NONE);
        due("last ahead of first", x.stall(1, 0, 13, 12, NONE), NONE);
        due("last 24", x.stall(1, 0, 13, 24, NONE), NONE);
        due("hour -1", x.stall(1, 0, -1, 12, NONE), NONE);
        due("week 52", x.stall(1, 52, 12, 13, NONE), NONE);
        due("week -1", x.stall(1, -1, 12, 13, NONE), NONE);
        due("guild 2", x.stall(2, 0, 12, 13, NONE), NONE);
        due("guild -1", x.stall(-1, 0, 12, 13, NONE), NONE);
        // at 0 on 0 or 7, at 1 on 6, at 2 on 7: the far start is the nearer one
        PaneSpots y = PROBE.told("floor 8 1 ; guild a likes 0 owes 0 ; guild b likes 0 owes 0 ; pane 0 0 of a colour 1 ; pane 7 0 of a colour 1 ;"
            + " pane 1 0 of b colour 1 ; pane 2 0 of b colour 1 ; dark 2 < hour ;"
            + " east ( hour = 1 ) * ( ( column = 0 ) * 6 - 8 * ( 0 < column ) ) - ( hour = 2 ) * 8 * ( column = 0 ) ;");
        due("far start", y.stall(0, 3, 0, 2, 0), 7);
        due("then", y.stall(0, 3, 0, 2, 1), 6);
        due("at last", y.stall(0, 3, 0, 2, 2), 7);
        due("two steps", y.stall(0, 3, 0, 2, NONE), 2);
        due("one hour: the least place", y.stall(0, 3, 0, 0, 0), 0);
        y.breaks(0, false);
        due("by what is whole alone", y.stall(0, 3, 0, 2, NONE), 0);
        due("anywhere at 1: it stays", y.stall(0, 3, 0, 2, 1), 7);
    }

    private static void stallWhereNothingIsOwned() {
        // light at hours 0 and 3 alone: on 0, then on 9 (one down, one on)
        PaneSpots x = PROBE.told("floor 2 2 ; guild a likes 0 owes 0 ; guild b likes 0 owes 0 ; pane 0 0 of a colour 1 ;"
            + " east hour = 3 ; deep hour = 3 ; dark not ( hour = 0 or hour = 3 ) ;");
        due("steps", x.stall(0, 0, 0, 3, NONE), 2);
        int[] places = {0, 0, 0, 9};
        for (int i = 0; i < 4; i++) {
            due("least row " + i, x.stall(0, 0, 0, 3, i), places[i]);
        }
        due("back from 9: the least place at once", x.stall(0, 0, 3, 4, 1), 9);
        due("owning nothing", x.stall(1, 0, 0, 23, NONE), 0);
        due("owning nothing, where", x.stall(1, 0, 0, 23, 23), 0);
        due("ahead of the light it waits there", x.stall(0, 0, 1, 3, 0), 9);
    }

    // Promises 19 to 22
    private static void seeCandlesWhen() {
        PaneSpots x = PROBE.told(TWO_GUILDS);
        due("x 3", x.see(3, 0, 0), NONE);
        due("y 2", x.see(0, 2, 0), NONE);
        due("x -1", x.see(-1, 0, 0), NONE);
        due("y -1", x.see(0, -1, 0), NONE);
        due("colour 8", x.see(0, 0, 8), NONE);
        due("colour -1", x.see(0, 0, -1), NONE);
        due("no candle without what is seen", x.candles(0, 12), 0);
        due("see", x.see(1, 0, 1), 1);
        due("see no light", x.see(0, 0, 0), 2);
        due("candles at 13", x.candles(51, 13), 0);
        due("candles at 12", x.candles(0, 12), 2);
        due("candles at 0", x.candles(0, 0), 1);
        due("when", x.when(0), 13);
        due("when: candles", x.when(1), 0);
        due("when: times", x.when(2), 52);
        due("when 3", x.when(3), NONE);
        due("when -1", x.when(-1), NONE);
        x.breaks(0, false);
        due("broken: no time is without a candle", x.when(1), 1);
        due("broken: first", x.when(0), 0);
        due("broken: times", x.when(2), 1248);
        due("week 52", x.candles(52, 0), NONE);
        due("hour 24", x.candles(0, 24), NONE);
        due("week -1", x.candles(-1, 0), NONE);
        due("hour -1", x.candles(0, -1), NONE);
        for (int i = 3; i <= 8; i++) {
            due("see again", x.see(2, 1, 7), i);
        }
        due("8 are", x.see(2, 1, 7), NONE);
        due("six more", x.candles(0, 0), 7);
        due("clear", x.clear(), true);
        due("nothing is seen", x.count(6), 0);
        due("clear again", x.clear(), true);
        due("see anew", x.see(0, 0, 0), 1);
        PaneSpots late = PROBE.told("floor 1 1 ; guild a likes 0 owes 0 ; pane 0 0 of a colour 5 ; east 0 ;"
            + " dark not ( week = 51 and hour = 23 ) ;");
        late.see(0, 0, 5);
        due("the last time of all", late.when(0), 1247);
        due("once", late.when(2), 1);
    }

    // Promise 23
    private static void stains() {
        PaneSpots x = PROBE.told(TWO_GUILDS);
        due("red, red", x.stains(0, 12, 2, 1 + 8), 1);
        due("yellow, blue: one step", x.stains(0, 12, 2, 2 + 8 * 4), 1);
        due("red, yellow: two steps", x.stains(0, 12, 2, 1 + 8 * 2), 0);
        due("no light twice", x.stains(0, 12, 2, 0), 4);
        due("dark, all places", x.stains(0, 0, 1, 0), 6);
        due("dark, two hours", x.stains(0, 0, 2, 0), 6 + 2 * 7);
        due("six hours", x.stains(0, 18, 6, 0) > 0, true);
        due("beyond 23", x.stains(0, 19, 6, 0), NONE);
        due("to 23", x.stains(0, 23, 1, 0), 6);
        due("7 hours", x.stains(0, 12, 7, 0), NONE);
        due("0 hours", x.stains(0, 12, 0, 0), NONE);
        due("-1 hours", x.stains(0, 12, -1, 0), NONE);
        due("a digit too many", x.stains(0, 12, 1, 8), NONE);
        due("six sevens", x.stains(0, 12, 6, (1 << 18) - 1), 0);
        due("beyond six sevens", x.stains(0, 12, 6, 1 << 18), NONE);
        due("below 0", x.stains(0, 12, 2, -1), NONE);
        due("week 52", x.stains(52, 12, 1, 0), NONE);
        due("hour 24", x.stains(0, 24, 1, 0), NONE);
        due("hour -1", x.stains(0, -1, 1, 0), NONE);
        for (int wild : WILD) {
            due("wild hours", x.stains(0, 0, wild, 0), NONE);
            due("wild colours", x.stains(0, 0, 6, wild), NONE);
        }
        PaneSpots most = PROBE.told("floor 8 8 ;");
        due("8 by 8, one step", most.stains(0, 0, 2, 0), 64 + 4 * 56);
        PaneSpots line = PROBE.told("floor 2 1 ;");
        due("two places, six hours", line.stains(0, 0, 6, 0), 64);
    }

    // Promise 24
    private static void stood() {
        PaneSpots x = PROBE.told("floor 3 1 ; guild a likes 0 owes 0 ; guild b likes 0 owes 0 ; pane 0 0 of a colour 1 ;"
            + " pane 1 0 of b colour 1 ; pane 2 0 of b colour 1 ; pane 0 1 of b colour 1 ; pane 3 0 of b colour 2 ;"
            + " east 0 - ( column = 3 ) * 3 * hour ; deep 0 ; dark 1 < hour ;");
        // hour 0: red on 0 (a, b), 1 (b), 2 (b); hour 1: red and yellow on 0, red on 1, 2
        due("rows of one hour", x.stains(0, 0, 1, 1), 3);
        due("in all rows", x.stood(0, 0, 1, 1, 0, false), 2);
        due("in some", x.stood(0, 0, 1, 1, 0, true), 3);
        due("rows of two hours", x.stains(0, 0, 2, 1 + 8 * 3), 2);
        due("two hours: first, all", x.stood(0, 0, 2, 1 + 8 * 3, 0, false), 2);
        due("two hours: first, some", x.stood(0, 0, 2, 1 + 8 * 3, 0, true), 3);
        due("two hours: then, all", x.stood(0, 0, 2, 1 + 8 * 3, 1, false), 3);
        due("no row", x.stood(0, 0, 1, 4, 0, true), NONE);
        due("no row, all", x.stood(0, 0, 1, 4, 0, false), NONE);
        due("no light", x.stood(0, 2, 1, 0, 0, false), 0);
        due("no light, some", x.stood(0, 2, 1, 0, 0, true), 0);
        due("i -1", x.stood(0, 0, 1, 1, -1, true), NONE);
        due("i 1", x.stood(0, 0, 1, 1, 1, true), NONE);
        due("hours 7", x.stood(0, 0, 7, 0, 0, true), NONE);
        due("hours 0", x.stood(0, 0, 0, 0, 0, true), NONE);
        due("beyond 23", x.stood(0, 23, 2, 0, 0, true), NONE);
        due("colours", x.stood(0, 0, 1, 8, 0, true), NONE);
        due("week", x.stood(52, 0, 1, 1, 0, true), NONE);
        for (int wild : WILD) {
            due("wild i", x.stood(0, 0, 1, 1, wild, true), NONE);
        }
    }

    private static long cloudedOf(PaneSpots x, int seed, int guild) {
        try {
            return x.clouded(seed, guild);
        } catch (NoSuchElementException e) {
            return Long.MIN_VALUE;
        }
    }

    // Promise 25
    private static void clouded() {
        // draws of seed 1: 16838, 5758, 10113, 17515, 31051, 5627, so 6, 6, 1, 3, 3, 3
        String text = "floor 1 1 ; guild a likes 0 owes 3 ; guild b likes 0 owes 1 ; guild c likes 0 owes 0 ;"
            + " pane 0 0 of a colour 1 ; east 0 ; dark week or 5 < hour ; cloud ";
        int[] light = {6, 6, 5, 5, 2, 2, 2, 0, 0};
        for (int cloud = 0; cloud <= 8; cloud++) {
            PaneSpots x = PROBE.told(text + cloud + " ;");
            due("cloud " + cloud, cloudedOf(x, 1, 0), light[cloud]);
            due("poor by cloud " + cloud, cloudedOf(x, 1, NONE), light[cloud] < 3 ? 2 : 1);
            due("asked again", cloudedOf(x, 1, 0), light[cloud]);
            due("rents know of no cloud", x.rents(0), 6);
        }
        PaneSpots x = PROBE.told(text + "1 ;");
        due("seed 0 is one", cloudedOf(x, 0, 0) >= 0, true);
        due("the first draw of seed 0 is 0", cloudedOf(x, 0, 0) < 6, true);
        due("seed 9999", cloudedOf(x, 9999, 0) >= 0, true);
        due("guild without a pane", cloudedOf(x, 1, 1), 0);
        due("seed -1", cloudedOf(x, -1, 0), Long.MIN_VALUE);
        due("seed 10000", cloudedOf(x, 10000, NONE), Long.MIN_VALUE);
        due("guild 3", cloudedOf(x, 1, 3), Long.MIN_VALUE);
        due("guild -2", cloudedOf(x, 1, -2), Long.MIN_VALUE);
        x.breaks(0, false);
        due("broken", cloudedOf(x, 1, 0), 0);
    }

    // Promise 26
    private static void mark() {
        PaneSpots x = PROBE.told(TWO_GUILDS);
        due("nothing is on it", x.mark(0, true), false);
        x.exchange(0, 1);
        x.breaks(2, false);
        x.see(1, 1, 3);
        due("laid", x.mark(3, false), true);
        due("what can be undone stays", x.count(5), 2);
        x.undo();
        x.undo();
        x.clear();
        x.see(0, 0, 1);
        x.see(0, 0, 2);
        due("laid too", x.mark(0, false), true);
        due("back", x.mark(3, true), true);
        due("owner", x.pane(0, 2), 1);
        due("broken", x.count(4), 1);
        due("seen", x.count(6), 1);
        due("what was seen", x.candles(0, 0), 1);
        due("nothing can be undone", x.undo(), false);
        x.breaks(0, false);
        due("back again", x.mark(3, true), true);
        due("as it was laid", x.pane(0, 4), 0);
        due("nothing can be undone again", x.count(5), 0);
        due("the other", x.mark(0, true), true);
        due("its seen", x.count(6), 2);
        due("what it saw", x.candles(0, 12), 1);
        x.clear();
        x.see(2, 1, 5);
        x.see(0, 0, 2);
        x.mark(0, true);
        due("what it saw first", x.candles(0, 12), 1);
        x.clear();
        x.see(0, 0, 7);
        x.see(0, 0, 1);
        x.mark(0, true);
        due("what it saw then", x.candles(0, 12), 1);
        due("its owner", x.pane(0, 2), 0);
        x.breaks(1, false);
        due("laid anew", x.mark(3, false), true);
        x.breaks(1, true);
        x.mark(3, true);
        due("as laid anew", x.pane(1, 4) * 10 + x.count(6), 12);
        due("mark 4", x.mark(4, false), false);
        due("mark -1", x.mark(-1, false), false);
        due("back to 4", x.mark(4, true), false);
        due("back to -1", x.mark(-1, true), false);
        for (int wild : WILD) {
            due("wild", x.mark(wild, false) || x.mark(wild, true), false);
        }
        due("rents behind it", x.rents(1), 104);
    }

    // Promise 27
    private static void count() {
        PaneSpots x = PROBE.told(TWO_GUILDS + " cloud 5 ;");
        x.breaks(1, false);
        x.exchange(0, 1);
        x.see(0, 0, 0);
        Probe.feed(x, "abc");
        int[] counts = {3, 2, 2, 3, 1, 2, 1, 5, 3};
        for (int i = 0; i < counts.length; i++) {
            due("count " + i, x.count(i), counts[i]);
        }
        due("count 9", x.count(9), NONE);
        due("count -1", x.count(-1), NONE);
        for (int wild : WILD) {
            due("count wild", x.count(wild), NONE);
        }
    }
}
