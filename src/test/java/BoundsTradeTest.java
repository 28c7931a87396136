import java.util.ArrayList;
import java.util.List;

/** The boundary cases that the document names of exchanges, falls and undoing (section 3, promises 10 to 17), sentence by sentence. */
public final class BoundsTradeTest {
    private static final Probe PROBE = new Probe("BoundsTradeTest");
    private static final int NONE = PaneSpots.NONE;
    /** Each pane has a place of its own, and light at one TIME. */
    private static final String APART = "floor 8 4 ; east 0 ; deep row ; dark week or hour ; ";
    /** Each likes what the other one's panes have. */
    private static final String GUILDS = "guild a likes 2 owes 0 ; guild b likes 1 owes 0 ; ";
    /** All light falls on one place, at one hour of each week. */
    private static final String TOGETHER = "floor 1 1 ; east 0 - column ; deep 0 ; dark hour ; ";

    public static void main(String[] args) {
        worth();
        worthOfColours();
        gain();
        fairIsMore();
        bestArguments();
        eachPaneInOneAtMost();
        leastRow();
        fairOnesAlone();
        exchange();
        fairOrNot();
        breaks();
        lessThanTheyOwe();
        whoHasAPane();
        allAtOnce();
        tillNoneFalls();
        toldNotDone();
        falls();
        lastTwenty();
        oneByOne();
        undoRefused();
        PROBE.end();
    }

    /** Panes of colour 1 of a and 2 of b, as told by letters; what each yields. */
    private static PaneSpots market(String owners, int... yields) {
        StringBuilder rent = new StringBuilder("rent 0");
        StringBuilder panes = new StringBuilder();
        for (int p = 0; p < owners.length(); p++) {
            int y = p / 8;
            rent.append(" + ( x = ").append(p % 8).append(" and y = ").append(y).append(" ) * ").append(yields[p % yields.length]);
            panes.append("pane ").append(p % 8).append(' ').append(y).append(" of ").append(owners.charAt(p)).append(" colour ")
                .append(owners.charAt(p) == 'a' ? 1 : 2).append(" ; ");
        }
        String told = yields.length == 1 ? "rent " + yields[0] : rent.toString();
        return PROBE.told(APART + GUILDS + panes + told + " ;");
    }

    private static void row(PaneSpots x, int... others) {
        for (int p = 0; p < others.length; p++) {
            PROBE.due("other one of pane " + p, x.best(p), others[p]);
        }
    }

    private static void worth() {
        PROBE.says("What a pane is WORTH to a GUILD; NONE: others");
        PaneSpots x = market("ab", 10, 13);
        int[][] due = {{10, 26}, {20, 13}};
        for (int guild = -1; guild <= 6; guild++) {
            for (int pane = -1; pane <= 12; pane++) {
                boolean known = guild >= 0 && guild < 2 && pane >= 0 && pane < 2;
                PROBE.due("worth " + guild + " " + pane, x.worth(guild, pane), known ? due[guild][pane] : NONE);
            }
        }
        for (int far : Probe.FAR_OFF) {
            PROBE.due("guild " + far, x.worth(far, 0), NONE);
            PROBE.due("pane " + far, x.worth(0, far), NONE);
        }
        x.breaks(1, false);
        PROBE.due("a broken one", x.worth(0, 1), 0);
    }

    private static void worthOfColours() {
        PROBE.says("its YIELD, times 1 and how many colours it has that the GUILD likes");
        for (int likes = 0; likes <= 7; likes++) {
            for (int colour = 1; colour <= 7; colour++) {
                PaneSpots x = PROBE.told(APART + "guild a likes " + likes + " owes 0 ; pane 0 0 of a colour " + colour + " ; rent 7 ;");
                int both = likes & colour;
                PROBE.due(likes + " liked of " + colour, x.worth(0, 0), 7 * (1 + both % 2 + both / 2 % 2 + both / 4));
            }
        }
        PaneSpots most = PROBE.told("floor 1 1 ; east 0 ; deep 0 ; dark 0 ; rent 999 ; guild a likes 7 owes 0 ; pane 0 0 of a colour 7 ;");
        PROBE.due("the most", most.worth(0, 0), 999 * 1248 * 4);
    }

    private static void gain() {
        PROBE.says("GAIN of an EXCHANGE, if it is FAIR; else 0; NONE: others, of one GUILD");
        PaneSpots x = market("aba", 10, 13, 11);
        for (int a = -1; a <= 12; a++) {
            for (int b = -1; b <= 12; b++) {
                boolean known = a >= 0 && a < 3 && b >= 0 && b < 3 && (a == 1) != (b == 1);
                PROBE.due("gain " + a + " " + b, x.gain(a, b), !known ? NONE : a == 0 || b == 0 ? 23 : 24);
            }
        }
        for (int far : Probe.FAR_OFF) {
            PROBE.due("first " + far, x.gain(far, 0), NONE);
            PROBE.due("second " + far, x.gain(0, far), NONE);
        }
        x.exchange(0, 1);
        PROBE.due("of one guild now", x.gain(1, 2), NONE);
        PROBE.due("of two now", x.gain(0, 2), 0);
    }

    private static void fairIsMore() {
        PROBE.says("FAIR if to each of these the other one's is worth more than its own");
        // to a the other one's is worth 2 * second, its own 10; to b 20, its own second
        PROBE.due("as much to a", market("ab", 10, 5).gain(0, 1), 0);
        PROBE.due("more to a by 2", market("ab", 10, 6).gain(0, 1), 16);
        PROBE.due("more to b by 1", market("ab", 10, 19).gain(0, 1), 29);
        PROBE.due("as much to b", market("ab", 10, 20).gain(0, 1), 0);
        PROBE.due("less to b", market("ab", 10, 21).gain(0, 1), 0);
        PROBE.due("less to a", market("ab", 10, 4).gain(0, 1), 0);
        PROBE.due("as much to both", market("ab", 0, 0).gain(0, 1), 0);
        PROBE.due("the other way round", market("ab", 10, 19).gain(1, 0), 29);
    }

    private static void bestArguments() {
        PROBE.says("BEST, what NONE: its GAIN; else what a pane is exchanged for (itself: not); NONE: others");
        PaneSpots x = market("aba", 10, 13, 11);
        PROBE.due("gain", x.best(NONE), 24);
        row(x, 0, 2, 1);
        for (int pane = 3; pane <= 13; pane++) {
            PROBE.due("pane " + pane, x.best(pane), NONE);
        }
        for (int far : Probe.FAR_OFF) {
            PROBE.due("pane " + far, x.best(far), NONE);
        }
        PaneSpots one = market("a", 10);
        PROBE.due("of one pane no gain", one.best(NONE), 0);
        row(one, 0, NONE);
        PaneSpots none = PROBE.told(GUILDS);
        PROBE.due("of no pane no gain", none.best(NONE), 0);
        row(none, NONE);
    }

    private static void eachPaneInOneAtMost() {
        PROBE.says("FAIR EXCHANGES, each pane in one at most, with the most GAIN together");
        // 1 and 2 alone would be 26, 0 with 1 and 2 with 3 are 14 + 47
        PaneSpots x = market("abab", 5, 9, 17, 30);
        PROBE.due("1 with 2", x.gain(1, 2), 26);
        PROBE.due("two are better than one", x.best(NONE), 61);
        row(x, 1, 0, 3, 2);
        // 1 with 2 would be better than 2 with 3, but that 0 has 1 then
        PaneSpots w = market("abab", 20, 12, 15, 10);
        PROBE.due("0 and 3: as much to both is not fair", w.gain(0, 3), 0);
        PROBE.due("0 with 1, 2 with 3", w.best(NONE), 57);
        row(w, 1, 0, 3, 2);
        PaneSpots y = market("abaaa", 9, 10, 12, 11, 12);
        PROBE.due("one pane is wanted by four", y.best(NONE), 22);
        row(y, 0, 2, 1, 3, 4);
        PaneSpots z = market("abababababab", 10);
        PROBE.due("six of twelve", z.best(NONE), 6 * 20);
        row(z, 1, 0, 3, 2, 5, 4, 7, 6, 9, 8, 11, 10);
    }

    private static void leastRow() {
        PROBE.says("of equal ones the least row (of each pane its other one, itself if none, pane 0 ahead)");
        row(market("ab", 10), 1, 0);
        row(market("aab", 10), 0, 2, 1);
        row(market("aba", 10), 0, 2, 1);
        row(market("baa", 10), 1, 0, 2);
        row(market("aabb", 10), 2, 3, 0, 1);
        row(market("abba", 10), 1, 0, 3, 2);
        row(market("aaab", 10), 0, 1, 3, 2);
        row(market("abbb", 10), 1, 0, 2, 3);
        row(market("aaaaaabbbbbb", 10), 6, 7, 8, 9, 10, 11, 0, 1, 2, 3, 4, 5);
        row(market("aaaaaaabbbbb", 10), 0, 1, 7, 8, 9, 10, 11, 2, 3, 4, 5, 6);
        row(market("aaaaabbbbbbb", 10), 5, 6, 7, 8, 9, 0, 1, 2, 3, 4, 10, 11);
        row(market("aaaaaaaaaaab", 10), 0, 1, 2, 3, 4, 5, 6, 7, 8, 9, 11, 10);
        row(market("baaaaaaaaaaa", 10), 1, 0, 2, 3, 4, 5, 6, 7, 8, 9, 10, 11);
    }

    private static void fairOnesAlone() {
        PROBE.says("BEST: FAIR EXCHANGES");
        PaneSpots x = market("ab", 10, 20);
        PROBE.due("as much to b: none", x.best(NONE), 0);
        row(x, 0, 1);
        PaneSpots y = market("ab", 10, 19);
        PROBE.due("more to b: one", y.best(NONE), 29);
        row(y, 1, 0);
        PaneSpots z = market("aabb", 10, 0, 10, 0);
        PROBE.due("what yields nothing is left", z.best(NONE), 20);
        row(z, 2, 1, 0, 3);
        z.exchange(0, 2);
        PROBE.due("done: none is left", z.best(NONE), 0);
        row(z, 0, 1, 2, 3);
    }

    private static void exchange() {
        PROBE.says("An EXCHANGE: true; false: others, of one GUILD");
        PaneSpots x = market("aba", 10, 13, 11);
        for (int pane = -1; pane <= 13; pane++) {
            if (pane < 0 || pane > 2) {
                PROBE.due("with " + pane, x.exchange(0, pane), false);
                PROBE.due(pane + " with", x.exchange(pane, 1), false);
            }
        }
        for (int far : Probe.FAR_OFF) {
            PROBE.due("with " + far, x.exchange(0, far), false);
            PROBE.due(far + " with", x.exchange(far, 1), false);
        }
        PROBE.due("of one guild", x.exchange(0, 2), false);
        PROBE.due("with itself", x.exchange(1, 1), false);
        PROBE.due("nothing was done", x.guild(0, 2) * 10 + x.count(5), 50);
        PROBE.due("of two guilds", x.exchange(0, 1), true);
        PROBE.due("the panes have one another's guilds", x.pane(0, 2) * 10 + x.pane(1, 2), 10);
        PROBE.due("and back", x.exchange(1, 0), true);
        PROBE.due("as told", x.pane(0, 2) * 10 + x.pane(1, 2), 1);
        PROBE.due("two can be undone", x.count(5), 2);
    }

    private static void fairOrNot() {
        PROBE.says("An EXCHANGE is done by hand, FAIR or not");
        PaneSpots x = market("ab", 10, 20);
        PROBE.due("not fair", x.gain(0, 1), 0);
        PROBE.due("done", x.exchange(0, 1), true);
        PROBE.due("rents", x.rents(0), 20);
        PaneSpots y = market("ab", 10, 19);
        PROBE.due("fair", y.gain(0, 1), 29);
        PROBE.due("done", y.exchange(0, 1), true);
        PROBE.due("broken ones", y.breaks(0, false) && y.breaks(1, false) && y.exchange(0, 1), true);
        PROBE.due("broken still", y.count(4), 2);
    }

    private static void breaks() {
        PROBE.says("BREAK (mend): true; false: others, it is so");
        PaneSpots x = market("aba", 10, 13, 11);
        for (int pane = -1; pane <= 13; pane++) {
            boolean known = pane >= 0 && pane < 3;
            PROBE.due("mend a whole one " + pane, x.breaks(pane, true), false);
            PROBE.due("break " + pane, x.breaks(pane, false), known);
            PROBE.due("break again " + pane, x.breaks(pane, false), false);
            PROBE.due("broken " + pane, x.pane(pane, 4), known ? 1 : NONE);
        }
        for (int pane = 0; pane < 3; pane++) {
            PROBE.due("mend " + pane, x.breaks(pane, true), true);
            PROBE.due("mend again " + pane, x.breaks(pane, true), false);
            PROBE.due("whole " + pane, x.pane(pane, 4), 0);
        }
        for (int far : Probe.FAR_OFF) {
            PROBE.due("break " + far, x.breaks(far, false), false);
            PROBE.due("mend " + far, x.breaks(far, true), false);
        }
        PROBE.due("six can be undone", x.count(5), 6);
    }

    private static String poor(String name, int owes) {
        return "guild " + name + " likes 0 owes " + owes + " ; ";
    }

    private static void lessThanTheyOwe() {
        PROBE.says("whose RENTS are less than they owe fall");
        String pane = "pane 0 0 of a colour 1 ; rent 10 ;";
        PROBE.due("as much", PROBE.told(TOGETHER + poor("a", 520) + pane).fallen(), 0);
        PROBE.due("less by one", PROBE.told(TOGETHER + poor("a", 521) + pane).fallen(), 1);
        PROBE.due("more by one", PROBE.told(TOGETHER + poor("a", 519) + pane).fallen(), 0);
        PROBE.due("owing nothing, having nothing", PROBE.told(TOGETHER + poor("a", 0) + "pane 0 0 of a colour 1 ; rent 0 ;").fallen(), 0);
        PROBE.due("owing 1, having nothing", PROBE.told(TOGETHER + poor("a", 1) + "pane 0 0 of a colour 1 ; rent 0 ;").fallen(), 1);
        PROBE.due("owing 9999", PROBE.told(TOGETHER + poor("a", 9999) + "pane 0 0 of a colour 1 ; rent 192 ;").fallen(), 1);
        PROBE.due("having 10036", PROBE.told(TOGETHER + poor("a", 9999) + "pane 0 0 of a colour 1 ; rent 193 ;").fallen(), 0);
    }

    private static void whoHasAPane() {
        PROBE.says("GUILDS that stand, have a pane that is not BROKEN");
        PaneSpots x = PROBE.told(TOGETHER + poor("a", 9999) + poor("b", 9999) + "pane 0 0 of a colour 1 ; pane 0 1 of a colour 1 ;");
        PROBE.due("b has none: it stands", x.fallen(), 1);
        PROBE.due("a", x.falls(0), 1);
        PROBE.due("b", x.falls(1), 0);
        x.breaks(0, false);
        PROBE.due("one of two broken", x.fallen(), 1);
        x.breaks(1, false);
        PROBE.due("both broken: it stands", x.fallen(), 0);
        PROBE.due("both broken: 0", x.falls(0), 0);
        x.breaks(0, true);
        PROBE.due("one mended", x.fallen(), 1);
        PaneSpots y = PROBE.told("floor 1 1 ; dark 1 ; " + poor("a", 1) + "pane 0 0 of a colour 1 ;");
        PROBE.due("a whole one that gives no light", y.fallen(), 1);
        PaneSpots z = PROBE.told(TOGETHER + poor("a", 9999) + poor("b", 0) + "pane 0 0 of a colour 1 ; pane 0 1 of b colour 1 ;");
        z.breaks(0, false);
        z.exchange(0, 1);
        PROBE.due("by exchange it has the whole one", z.fallen(), 1);
    }

    private static void allAtOnce() {
        PROBE.says("fall at once, their panes give no light then");
        String panes = "pane 0 0 of a colour 1 ; pane 1 0 of b colour 1 ; rent 10 ;";
        // each has 260; alone it would have 520
        PaneSpots both = PROBE.told(TOGETHER + poor("a", 261) + poor("b", 261) + panes);
        PROBE.due("both in one round", both.fallen(), 3);
        PROBE.due("rounds", both.falls(0) * 10 + both.falls(1), 11);
        PaneSpots one = PROBE.told(TOGETHER + poor("a", 261) + poor("b", 260) + panes);
        PROBE.due("the first alone", one.fallen(), 1);
        PROBE.due("the other stands", one.falls(1), 0);
        // c has 520 as long as one of a and b gives light, 468 when both are dark
        PaneSpots three = PROBE.told(TOGETHER + poor("a", 521) + poor("b", 521) + poor("c", 520) + "pane 0 0 of a colour 1 ;"
            + " pane 1 0 of b colour 1 ; pane 2 0 of c colour 1 ; rent mixed * 10 - ( mixed = 1 ) ;");
        PROBE.due("a and b", three.falls(0) * 10 + three.falls(1), 11);
        PROBE.due("then c", three.falls(2), 2);
        // by b's light alone a has 780, of which nothing is left when b falls
        String more = "pane 0 0 of a colour 1 ; pane 1 0 of b colour 1 ; rent ( mixed = 2 ) * 30 ;";
        PaneSpots after = PROBE.told(TOGETHER + poor("a", 780) + poor("b", 781) + more);
        PROBE.due("b, then a", after.falls(1) * 10 + after.falls(0), 12);
        PROBE.due("both", after.fallen(), 3);
    }

    private static void tillNoneFalls() {
        PROBE.says("behind rounds, till none falls");
        StringBuilder text = new StringBuilder(TOGETHER + "rent mixed * mixed * 10 ; ");
        for (int g = 0; g < 6; g++) {
            // of n panes each has n * 520
            text.append(poor("g" + (char) ('a' + g), (g + 1) * 520 + 1));
            text.append("pane ").append(g).append(" 0 of g").append((char) ('a' + g)).append(" colour 1 ; ");
        }
        PaneSpots x = PROBE.told(text.toString());
        PROBE.due("six rounds", x.fallen(), 63);
        for (int g = 0; g < 6; g++) {
            PROBE.due("guild " + g, x.falls(g), 6 - g);
        }
        PaneSpots y = PROBE.told(text.toString().replace(" 1041 ", " 1040 "));
        PROBE.due("the fifth round's stands", y.falls(1), 0);
        PROBE.due("and so the last", y.falls(0), 0);
        PROBE.due("four", y.fallen(), 60);
    }

    private static void toldNotDone() {
        PROBE.says("FALLEN: these; it is not done, but told");
        PaneSpots x = PROBE.told(TOGETHER + poor("a", 9999) + "pane 0 0 of a colour 1 ; rent 10 ;");
        PROBE.due("fallen", x.fallen(), 1);
        PROBE.due("its light falls", x.spot(0, 0, 0), 0);
        PROBE.due("it yields", x.yields(0), 520);
        PROBE.due("it has its rents", x.rents(0), 520);
        PROBE.due("no pane is broken", x.count(4), 0);
        PROBE.due("nothing can be undone", x.count(5), 0);
        PROBE.due("told again", x.fallen(), 1);
    }

    private static void falls() {
        PROBE.says("In which round a GUILD falls (1 first); 0: it stands; NONE: none such");
        PaneSpots x = PROBE.told(TOGETHER + poor("a", 261) + poor("b", 260) + "pane 0 0 of a colour 1 ; pane 1 0 of b colour 1 ; rent 10 ;");
        for (int guild = -1; guild <= 6; guild++) {
            PROBE.due("guild " + guild, x.falls(guild), guild == 0 ? 1 : guild == 1 ? 0 : NONE);
        }
        for (int far : Probe.FAR_OFF) {
            PROBE.due("guild " + far, x.falls(far), NONE);
        }
    }

    private static void lastTwenty() {
        PROBE.says("UNDO: EXCHANGES, BREAKS, mendings, the last 20");
        for (int doings : new int[] {0, 1, 19, 20, 21, 22, 39, 40, 41, 61}) {
            PaneSpots x = market("abab", 10);
            Hand hand = new Hand();
            List<Integer> states = new ArrayList<>();
            for (int n = 0; n < doings; n++) {
                states.add(hand.state());
                PROBE.due("doing", hand.does(x, n), true);
            }
            int due = Math.min(doings, 20);
            PROBE.due("can be undone of " + doings, x.count(5), due);
            for (int n = 1; n <= due; n++) {
                PROBE.due("undo " + n + " of " + doings, x.undo(), true);
                PROBE.due("as it was", stateOf(x), states.get(doings - n));
                PROBE.due("left", x.count(5), due - n);
            }
            int before = stateOf(x);
            PROBE.due("no more of " + doings, x.undo(), false);
            PROBE.due("all stays", stateOf(x), before);
        }
    }

    /** Who has which of four panes and which are BROKEN. */
    private static int stateOf(PaneSpots x) {
        int state = 0;
        for (int p = 0; p < 4; p++) {
            state = state * 4 + x.pane(p, 2) * 2 + x.pane(p, 4);
        }
        return state;
    }

    /** Does what can be done, one behind the other, and knows what four panes are like then. */
    private static final class Hand {
        private final int[] owner = {0, 1, 0, 1};
        private final boolean[] broken = new boolean[4];

        int state() {
            int state = 0;
            for (int p = 0; p < 4; p++) {
                state = state * 4 + owner[p] * 2 + (broken[p] ? 1 : 0);
            }
            return state;
        }

        boolean does(PaneSpots x, int n) {
            int pane = n / 3 % 4;
            if (n % 3 < 2) {
                int turned = (pane + n % 3) % 4;
                broken[turned] = !broken[turned];
                return x.breaks(turned, !broken[turned]);
            }
            int other = (pane + 1) % 4;
            while (owner[other] == owner[pane]) {
                other = (other + 1) % 4;
            }
            int guild = owner[pane];
            owner[pane] = owner[other];
            owner[other] = guild;
            return x.exchange(pane, other);
        }
    }

    private static void oneByOne() {
        PROBE.says("UNDO: one by one");
        PaneSpots x = market("ababab", 10);
        for (int n = 0; n < 25; n++) {
            x.breaks(n % 5, n / 5 % 2 == 1);
        }
        for (int n = 0; n < 18; n++) {
            x.undo();
        }
        PROBE.due("two are left", x.count(5), 2);
        // of breaks of all five and two mendings
        PROBE.due("three are broken", x.count(4), 3);
        for (int n = 0; n < 18; n++) {
            x.breaks(5, n % 2 == 1);
        }
        PROBE.due("twenty again", x.count(5), 20);
        x.breaks(5, false);
        PROBE.due("no more than twenty", x.count(5), 20);
        for (int n = 0; n < 19; n++) {
            x.undo();
        }
        PROBE.due("one of the two of before is left", x.count(5), 1);
        PROBE.due("three are broken again", x.count(4), 3);
        PROBE.due("the one", x.undo(), true);
        PROBE.due("the second mending is undone", x.pane(1, 4), 1);
        PROBE.due("the first is not", x.pane(0, 4), 0);
        PROBE.due("no more", x.undo(), false);
        PaneSpots y = market("ab", 10, 19);
        y.exchange(0, 1);
        PROBE.due("exchanged", y.rents(0), 19);
        PROBE.due("undone", y.undo(), true);
        PROBE.due("rents as before", y.rents(0), 10);
        y.breaks(0, false);
        y.breaks(0, true);
        y.undo();
        PROBE.due("a mending undone", y.pane(0, 4), 1);
        y.undo();
        PROBE.due("a break undone", y.pane(0, 4), 0);
    }

    private static void undoRefused() {
        PROBE.says("UNDO: true; false: nothing can be");
        PaneSpots x = market("ab", 10);
        PROBE.due("at first", x.undo(), false);
        x.exchange(0, 0);
        x.breaks(0, true);
        x.breaks(2, false);
        PROBE.due("what was refused is no doing", x.undo(), false);
        x.see(0, 0, 1);
        x.clear();
        x.mark(0, false);
        x.fallen();
        x.best(NONE);
        PROBE.due("nor are others", x.undo(), false);
        x.breaks(0, false);
        PROBE.due("a break is", x.undo(), true);
        PROBE.due("once", x.undo(), false);
        x.breaks(0, false);
        x.mark(0, true);
        PROBE.due("not when a mark is gone back to", x.undo(), false);
        x.breaks(0, false);
        x.mark(1, true);
        PROBE.due("a mark with nothing on it leaves it", x.undo(), true);
    }
}
