/** The FAULTS of a CHAPEL: each text has a | right ahead of the token that is wrong. */
public final class FaultsTest {
    private static final Probe PROBE = new Probe("FaultsTest");
    private static final String GUILD = "guild gg likes 1 owes 2 ; ";
    private static final String PANE = GUILD + "pane 0 1 of gg colour 1 ; ";

    public static void main(String[] args) {
        cantStand();
        noToken();
        theEnd();
        noGuild();
        toldAlready();
        notAsTold();
        oneTooMany();
        theLeastOfTheFirst();
        right();
        PROBE.end();
    }

    private static void fault(int kind, String marked) {
        int at = marked.indexOf('|');
        String text = marked.substring(0, at) + marked.substring(at + 1);
        PaneSpots spots = new PaneSpots();
        PROBE.due(marked, Probe.tell(spots, text), kind + 16 * at);
        PROBE.due("all stays behind " + marked, spots.count(0) * 100 + spots.count(2) * 10 + spots.count(3), 400);
    }

    private static void right(String text) {
        PROBE.due(text, Probe.tell(new PaneSpots(), text), 0);
    }

    private static void cantStand() {
        fault(1, "|; ");
        fault(1, "|spot 1 ;");
        fault(1, "|1 ;");
        fault(1, "|likes");
        fault(1, "floor |x");
        fault(1, "floor 1 |;");
        fault(1, "floor 1 1 |1");
        fault(1, "floor 1 |floor");
        fault(1, "floor 1 1 ; |;");
        String[] reserved = {"floor", "guild", "likes", "owes", "pane", "of", "colour", "east", "deep", "dark", "rent",
            "cloud", "not", "and", "or"};
        for (String word : reserved) {
            fault(1, "guild |" + word + " likes 1 owes 2 ;");
            fault(1, GUILD + "pane 0 0 of |" + word);
            if (!word.equals("not")) {
                fault(1, "rent |" + word);
            }
        }
        fault(1, "guild |1 likes");
        fault(1, "guild gg |owes");
        fault(1, "guild gg likes |owes");
        fault(1, "guild gg likes 1 |likes");
        fault(1, "guild gg likes 1 owes |;");
        fault(1, "guild gg likes 1 owes 2 |guild");
        fault(1, GUILD + "pane |of");
        fault(1, GUILD + "pane 0 |of");
        fault(1, GUILD + "pane 0 0 |gg");
        fault(1, GUILD + "pane 0 0 of |0");
        fault(1, GUILD + "pane 0 0 of gg |1");
        fault(1, GUILD + "pane 0 0 of gg colour |;");
        fault(1, GUILD + "pane 0 0 of gg colour 1 |pane");
        fault(1, "cloud |;");
        fault(1, "cloud 1 |1");
        expressionsThatCantStand();
    }

    private static void expressionsThatCantStand() {
        fault(1, "east |;");
        fault(1, "east |- 1 ;");
        fault(1, "east 1 + |+ 1 ;");
        fault(1, "east 1 |1 ;");
        fault(1, "east ( 1 |;");
        fault(1, "east ( |) ;");
        fault(1, "east 1 |) ;");
        fault(1, "east ( 1 + 1 |( 2 ) ) ;");
        fault(1, "east 1 |not 1 ;");
        fault(1, "east not |;");
        fault(1, "east 1 and |or 1 ;");
        fault(1, "east 1 and |;");
        fault(1, "east 1 = 1 |= 1 ;");
        fault(1, "east 1 = 1 |< 1 ;");
        fault(1, "east 1 < |< 1 ;");
        fault(1, "east 1 * |;");
        fault(1, "east |hh ;");
        for (String fact : new String[] {"x", "y", "mixed"}) {
            fault(1, "east |" + fact + " ;");
            fault(1, "deep 1 + |" + fact + " ;");
            fault(1, "dark not |" + fact + " ;");
        }
        for (String fact : new String[] {"column", "row"}) {
            fault(1, "dark |" + fact + " ;");
            fault(1, "rent ( |" + fact + " ) ;");
        }
    }

    private static void noToken() {
        fault(1, "floor |!");
        fault(1, "|Floor 1 1 ;");
        fault(1, "floor |12345 1 ;");
        fault(1, "floor |00001 1 ;");
        fault(1, "guild |abcdefghi likes 1 owes 2 ;");
        fault(1, "guild gg likes 1 owes |10000 ;");
        fault(1, "guild g|1 likes 1 owes 2 ;");
        fault(1, "guild g|_ likes 1 owes 2 ;");
        fault(1, "floor 1 1 ; |~");
        fault(1, "rent 1 |> 2 ;");
        fault(1, "rent |123456789abc");
        fault(1, "|floors 1 1 ;");
    }

    private static void theEnd() {
        fault(1, "floor|");
        fault(1, "floor  \n |");
        fault(1, "floor 1|");
        fault(1, "floor 1 1|");
        fault(1, "guild|");
        fault(1, "guild a|");
        fault(1, "guild a likes|");
        fault(1, "guild a likes 1|");
        fault(1, "guild a likes 1 owes|");
        fault(1, "guild a likes 1 owes 1|");
        fault(1, "pane|");
        fault(1, "rent|");
        fault(1, "rent x|");
        fault(1, "rent x <|");
        fault(1, "rent ( x|");
        fault(1, "rent not|");
        fault(1, "rent x and|");
        fault(1, "cloud|");
    }

    private static void noGuild() {
        fault(2, "pane 0 0 of |gg");
        fault(2, GUILD + "pane 0 0 of |g");
        fault(2, GUILD + "pane 0 0 of |ggg");
        fault(2, GUILD + "pane 0 0 of |week");
        fault(2, GUILD + "pane 0 0 of |hh guild hh likes 0 owes 0 ;");
    }

    private static void toldAlready() {
        fault(3, GUILD + "guild |gg likes 1 owes 2 ;");
        fault(3, GUILD + "guild a likes 1 owes 2 ; guild |a");
        fault(3, PANE + "pane 0 |1 of gg colour 1 ;");
        fault(3, PANE + "pane 0 |0001");
        fault(3, "floor 1 1 ; |floor 1 1 ;");
        fault(3, "east 1 ; |east 1 ;");
        fault(3, "deep 1 ; |deep 1 ;");
        fault(3, "dark 1 ; |dark 1 ;");
        fault(3, "rent 1 ; |rent 1 ;");
        fault(3, "cloud 1 ; |cloud 1 ;");
        fault(3, "cloud 0 ; east 1 ; |cloud");
    }

    private static void notAsTold() {
        fault(4, "floor |0 1 ;");
        fault(4, "floor |9 9 ;");
        fault(4, "floor 8 |9 ;");
        fault(4, "floor 8 |0 ;");
        fault(4, "guild gg likes |8 owes 1 ;");
        fault(4, GUILD + "pane |8 0 of gg colour 1 ;");
        fault(4, GUILD + "pane 7 |4 of gg colour 1 ;");
        fault(4, GUILD + "pane 7 3 of gg colour |0 ;");
        fault(4, GUILD + "pane 7 3 of gg colour |8 ;");
        fault(4, "cloud |9 ;");
        fault(4, "cloud |9999 ;");
    }

    private static String guilds(int count) {
        StringBuilder text = new StringBuilder();
        for (int i = 0; i < count; i++) {
            text.append("guild g").append((char) ('a' + i)).append(" likes 0 owes 0 ; ");
        }
        return text.toString();
    }

    private static String panes(int count) {
        StringBuilder text = new StringBuilder(GUILD);
        for (int i = 0; i < count; i++) {
            text.append("pane ").append(i % 8).append(' ').append(i / 8).append(" of gg colour 1 ; ");
        }
        return text.toString();
    }

    private static void oneTooMany() {
        fault(5, guilds(6) + "|guild gz likes 0 owes 0 ;");
        fault(5, guilds(6) + "|guild ga");
        fault(5, guilds(6) + "|guild");
        fault(5, panes(12) + "|pane 7 3 of gg colour 1 ;");
        fault(5, panes(12) + "|pane 0 0");
        fault(5, "rent not not not not not |1 ;");
        fault(5, "rent not not not not not |not 1 ;");
        fault(5, "rent ( ( ( ( ( |1 ) ) ) ) ) ;");
        fault(5, "rent ( ( ( ( ( |( 1 ;");
        fault(5, "rent ( not ( not ( |x ) ) ) ;");
        fault(5, "rent 1 + ( 1 < ( 1 * ( 1 = ( 1 and ( |week");
    }

    private static void theLeastOfTheFirst() {
        fault(1, "east ( ( ( ( ( |x");
        fault(1, "east ( ( ( ( ( |)");
        fault(1, "east ( ( ( ( ( |!");
        fault(1, "east ( ( ( ( (|");
        fault(1, guilds(6) + "|gz");
        fault(1, guilds(6) + "floor |guild");
        fault(1, "east 1 ; |; east");
        fault(3, "floor 1 1 ; |floor 9 9 ; spot");
        fault(4, "floor |9 spot ;");
        fault(4, PANE + "pane 0 |4 of hh colour 9 ;");
        fault(4, PANE + "pane |8 1 of hh colour 9 ;");
        fault(3, PANE + "pane 0 |1 of hh colour 9 ;");
    }

    private static void right() {
        right("");
        right(" \n ");
        right(guilds(6));
        right(panes(12));
        right("rent not not not not 1 ;");
        right("rent ( ( ( ( 1 ) ) ) ) + ( not ( not x ) ) ;");
        right("rent ((((1))))*((((x))))<not not not(1)and y or mixed=week+hour-1;");
        right("guild abcdefgh likes 7 owes 9999 ; guild abcdefg likes 0 owes 0 ; pane 7 3 of abcdefgh colour 7 ;");
        right("guild x likes 0 owes 0 ; guild y likes 0 owes 0 ; guild mixed likes 0 owes 0 ; pane 0 0 of mixed colour 1 ;");
        right("cloud 8;floor8 8;dark 0;deep row;east column*hour-week;rent x+y*mixed;");
    }
}
