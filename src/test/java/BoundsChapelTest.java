/** The boundary cases that the document names of CHAPELS, their E and FAULTS (Terms, promise 3), sentence by sentence. */
public final class BoundsChapelTest {
    private static final Probe PROBE = new Probe("BoundsChapelTest");
    private static final String GUILD = "guild gg likes 1 owes 2 ; ";
    private static final String[] RESERVED = {"floor", "guild", "likes", "owes", "pane", "of", "colour", "east", "deep", "dark",
        "rent", "cloud", "not", "and", "or"};
    private static final String[] FACTS = {"week", "hour", "column", "row", "x", "y", "mixed"};
    private static final String[] LAWS = {"east", "deep", "dark", "rent"};

    public static void main(String[] args) {
        anyNumberOfLines();
        floor();
        guilds();
        sixGuilds();
        panes();
        twelvePanes();
        eachPlaceOnce();
        ofAGuildTold();
        cloud();
        onceEach();
        names();
        grammarOfE();
        longestE();
        withinFive();
        factsOfEachLaw();
        oneOrZero();
        wrappedInts();
        withoutALine();
        theEndIsAToken();
        firstAndLeast();
        allStaysBehindAFault();
        nothingOfOtherTexts();
        fromThenOn();
        otherLawsFromThenOn();
        PROBE.end();
    }

    /** What an E of rent answers, if that is from 0 to 999, at one TIME. */
    private static int valueAt(String e, int week, int hour) {
        return PROBE.told("floor 1 1 ; guild gg likes 0 owes 0 ; pane 0 0 of gg colour 1 ; east 0 ; deep 0 ;"
            + " dark not ( week = " + week + " and hour = " + hour + " ) ; rent " + e + " ;").yields(0);
    }

    private static void value(String e, int want) {
        PROBE.due(e, valueAt(e, 0, 0), want);
    }

    private static void anyNumberOfLines() {
        PROBE.says("CHAPEL: any number of");
        PaneSpots x = PROBE.told("");
        PROBE.due("no guild", x.count(2), 0);
        PROBE.due("no pane", x.count(3), 0);
        PROBE.told("cloud 1 ;");
        PROBE.told("rent 1 ; cloud 1 ; dark 1 ; floor 1 1 ; deep 1 ; east 1 ; " + sixGuildsTold());
        PROBE.fault(1, "cloud 1 ; |;");
        PROBE.fault(1, "cloud 1 |cloud 1 ;");
    }

    private static void floor() {
        PROBE.says("floor: how wide, how deep, 1 to 8 each");
        for (int n = 1; n <= 8; n++) {
            PaneSpots x = PROBE.told("floor " + n + " " + (9 - n) + " ;");
            PROBE.due("wide", x.count(0), n);
            PROBE.due("deep", x.count(1), 9 - n);
            PROBE.due("the last place", x.place(n - 1, 8 - n, 0, 0, 0), 0);
            PROBE.due("beyond it", x.place(n, 8 - n, 0, 0, 0), PaneSpots.NONE);
            PROBE.due("below it", x.place(n - 1, 9 - n, 0, 0, 0), PaneSpots.NONE);
        }
        for (String n : new String[] {"0", "9", "10", "9999"}) {
            PROBE.fault(4, "floor |" + n + " 1 ;");
            PROBE.fault(4, "floor 1 |" + n + " ;");
        }
        PROBE.says("(4 and 4 without)");
        PaneSpots x = PROBE.told("floor 8 8 ;");
        PROBE.due("told anew", Probe.tell(x, "cloud 0 ;"), 0);
        PROBE.due("wide", x.count(0), 4);
        PROBE.due("deep", x.count(1), 4);
        PROBE.due("the last place", x.place(3, 3, 0, 0, 0), 0);
        PROBE.due("beyond", x.place(4, 0, 0, 0, 0) + x.place(0, 4, 0, 0, 0), 2 * PaneSpots.NONE);
    }

    private static void guilds() {
        PROBE.says("colours it likes (0 to 7)");
        for (int likes = 0; likes <= 7; likes++) {
            PROBE.due("likes", PROBE.told("guild gg likes " + likes + " owes 0 ;").guild(0, 0), likes);
        }
        PROBE.fault(4, "guild gg likes |8 owes 0 ;");
        PROBE.fault(4, "guild gg likes |9999 owes 0 ;");
        PROBE.says("what it owes a year (0 to 9999)");
        PROBE.due("owes 0", PROBE.told("guild gg likes 0 owes 0 ;").guild(0, 1), 0);
        PROBE.due("owes 9999", PROBE.told("guild gg likes 0 owes 9999 ;").guild(0, 1), 9999);
        PROBE.fault(1, "guild gg likes 0 owes |10000 ;");
    }

    private static String sixGuildsTold() {
        StringBuilder text = new StringBuilder();
        for (int g = 0; g < 6; g++) {
            text.append("guild g").append((char) ('a' + g)).append(" likes ").append(g).append(" owes ").append(9 * g).append(" ; ");
        }
        return text.toString();
    }

    private static void sixGuilds() {
        PROBE.says("guild: 6 at most, numbered as told");
        PaneSpots x = PROBE.told(sixGuildsTold() + "pane 0 0 of gf colour 1 ; pane 1 0 of ga colour 1 ;");
        PROBE.due("six", x.count(2), 6);
        for (int g = 0; g < 6; g++) {
            PROBE.due("likes " + g, x.guild(g, 0), g);
            PROBE.due("owes " + g, x.guild(g, 1), 9 * g);
        }
        PROBE.due("the last one's", x.pane(0, 2), 5);
        PROBE.due("the first one's", x.pane(1, 2), 0);
        PROBE.says("5 one too many: the words guild of a seventh");
        PROBE.fault(5, sixGuildsTold() + "|guild gz likes 0 owes 0 ;");
        PROBE.fault(5, sixGuildsTold() + "cloud 1 ; |guild");
        PROBE.fault(5, sixGuildsTold() + "|guild ga likes 9");
    }

    private static void panes() {
        PROBE.says("column (0 to 7) and row (0 to 3) in the window");
        for (int column = 0; column <= 7; column++) {
            for (int row = 0; row <= 3; row++) {
                PaneSpots x = PROBE.told(GUILD + "pane " + column + " " + row + " of gg colour 1 ;");
                PROBE.due("column", x.pane(0, 0), column);
                PROBE.due("row", x.pane(0, 1), row);
            }
        }
        PROBE.fault(4, GUILD + "pane |8 0 of gg colour 1 ;");
        PROBE.fault(4, GUILD + "pane |9999 0 of gg colour 1 ;");
        PROBE.fault(4, GUILD + "pane 0 |4 of gg colour 1 ;");
        PROBE.fault(4, GUILD + "pane 7 |9999 of gg colour 1 ;");
        PROBE.says("a colour (1 to 7, a sum of red 1, yellow 2, blue 4)");
        for (int colour = 1; colour <= 7; colour++) {
            PROBE.due("colour", PROBE.told(GUILD + "pane 0 0 of gg colour " + colour + " ;").pane(0, 3), colour);
        }
        PROBE.fault(4, GUILD + "pane 0 0 of gg colour |0 ;");
        PROBE.fault(4, GUILD + "pane 0 0 of gg colour |8 ;");
    }

    private static String panesTold(int count) {
        StringBuilder text = new StringBuilder(GUILD);
        for (int p = 0; p < count; p++) {
            text.append("pane ").append(7 - p % 8).append(' ').append(p / 4).append(" of gg colour ").append(1 + p % 7).append(" ; ");
        }
        return text.toString();
    }

    private static void twelvePanes() {
        PROBE.says("pane: 12 at most, numbered as told");
        PaneSpots x = PROBE.told(panesTold(12));
        PROBE.due("twelve", x.count(3), 12);
        for (int p = 0; p < 12; p++) {
            PROBE.due("column " + p, x.pane(p, 0), 7 - p % 8);
            PROBE.due("row " + p, x.pane(p, 1), p / 4);
            PROBE.due("colour " + p, x.pane(p, 3), 1 + p % 7);
        }
        PROBE.says("5 one too many: pane of a 13th");
        PROBE.fault(5, panesTold(12) + "|pane 0 3 of gg colour 1 ;");
        PROBE.fault(5, panesTold(12) + "guild a likes 0 owes 0 ; |pane");
        PROBE.fault(5, panesTold(12) + "|pane 7 0 of nobody");
    }

    private static void eachPlaceOnce() {
        PROBE.says("each place once");
        PROBE.told(GUILD + "pane 0 1 of gg colour 1 ; pane 1 0 of gg colour 1 ; pane 0 0 of gg colour 1 ; pane 1 1 of gg colour 1 ;");
        PROBE.says("3 the row of a place that has a pane");
        PROBE.fault(3, GUILD + "pane 0 0 of gg colour 1 ; pane 0 |0 of gg colour 2 ;");
        PROBE.fault(3, GUILD + "pane 7 3 of gg colour 1 ; pane 7 |3");
        PROBE.fault(3, panesTold(11) + "pane 7 |0 of gg colour 1 ;");
        PROBE.fault(3, panesTold(11) + "pane 5 |2 of gg colour 1 ;");
        PaneSpots x = PROBE.told(panesTold(12));
        PROBE.due("another text's panes are not told in this", Probe.tell(x, panesTold(12)), 0);
    }

    private static void ofAGuildTold() {
        PROBE.says("2 a NAME of no GUILD told (behind of)");
        PROBE.fault(2, "pane 0 0 of |gg");
        PROBE.fault(2, "pane 0 0 of |gg colour 1 ; " + GUILD);
        PROBE.fault(2, GUILD + "pane 0 0 of |g colour 1 ;");
        PROBE.fault(2, GUILD + "pane 0 0 of |week colour 1 ;");
        PROBE.fault(2, sixGuildsTold() + "pane 0 0 of |gg");
        PaneSpots x = PROBE.told(GUILD);
        PROBE.due("a guild of the text before is not told", Probe.tell(x, "pane 0 0 of gg colour 1 ;"), 2 + 16 * 12);
    }

    private static void cloud() {
        PROBE.says("cloud 0 to 8 (0 without)");
        for (int cloud = 0; cloud <= 8; cloud++) {
            PROBE.due("cloud", PROBE.told("cloud " + cloud + " ;").count(7), cloud);
        }
        PROBE.fault(4, "cloud |9 ;");
        PROBE.fault(4, "cloud |9999 ;");
        PaneSpots x = PROBE.told("cloud 8 ;");
        PROBE.due("told anew", Probe.tell(x, "floor 1 1 ;"), 0);
        PROBE.due("without", x.count(7), 0);
    }

    private static void onceEach() {
        PROBE.says("3 the words floor, east, deep, dark, rent, cloud a second time");
        PROBE.fault(3, "floor 1 1 ; |floor 1 1 ;");
        PROBE.fault(3, "cloud 0 ; |cloud 0 ;");
        for (String law : LAWS) {
            PROBE.fault(3, law + " 1 ; |" + law + " 1 ;");
            PROBE.fault(3, law + " 0 ; cloud 1 ; |" + law);
            PaneSpots x = PROBE.told(law + " 1 ;");
            PROBE.due("once in each text", Probe.tell(x, law + " 1 ;"), 0);
            PROBE.due("a text with a fault told it", Probe.tell(x, law + " 1 ; ;"), 1 + 16 * 9);
            PROBE.due("it counts no more", Probe.tell(x, law + " 1 ;"), 0);
        }
    }

    private static void names() {
        PROBE.says("A NAME is another WORD than floor, guild, likes, owes, pane, of, colour, east, deep, dark, rent, cloud, not, and, or");
        for (String word : RESERVED) {
            PROBE.fault(1, "guild |" + word + " likes 0 owes 0 ;");
            PROBE.fault(1, GUILD + "pane 0 0 of |" + word + " colour 1 ;");
            if (word.length() < 8) {
                PROBE.told("guild " + word + "s likes 0 owes 0 ; pane 0 0 of " + word + "s colour 1 ;");
                PROBE.told("guild s" + word + " likes 0 owes 0 ; pane 0 0 of s" + word + " colour 1 ;");
            }
            PROBE.told("guild " + word.charAt(0) + " likes 0 owes 0 ; pane 0 0 of " + word.charAt(0) + " colour 1 ;");
        }
        for (String fact : FACTS) {
            PROBE.told("guild " + fact + " likes 0 owes 0 ; pane 0 0 of " + fact + " colour 1 ;");
        }
        PROBE.fault(1, "guild |7 likes 0 owes 0 ;");
        PROBE.fault(1, "guild |; likes 0 owes 0 ;");
        PROBE.says("no two are alike");
        PROBE.fault(3, GUILD + "guild |gg likes 0 owes 0 ;");
        PROBE.fault(3, "guild abcdefgh likes 0 owes 0 ; guild b likes 0 owes 0 ; guild |abcdefgh");
        PROBE.fault(3, "guild week likes 0 owes 0 ; guild |week");
        PROBE.told(GUILD + "guild g likes 0 owes 0 ; guild ggg likes 0 owes 0 ; guild gh likes 0 owes 0 ; guild hg likes 0 owes 0 ;");
    }

    private static void grammarOfE() {
        PROBE.says("E: TEST { and TEST or or TEST }, from the left");
        value("1 or 1 and 0", 0);
        value("0 and 0 or 1", 1);
        value("1 or 0 and 0 or 0", 0);
        PROBE.fault(1, "rent 1 and |;");
        PROBE.fault(1, "rent |and 1 ;");
        PROBE.fault(1, "rent 1 or |and 1 ;");
        PROBE.says("TEST: SUM, or SUM < SUM, or SUM = SUM");
        value("2 < 3", 1);
        value("3 < 3", 0);
        value("4 < 3", 0);
        value("3 = 3", 1);
        value("3 = 4", 0);
        value("1 + 2 = 3 and 1", 1);
        PROBE.fault(1, "rent 1 < 2 |< 3 ;");
        PROBE.fault(1, "rent 1 < 2 |= 1 ;");
        PROBE.fault(1, "rent 1 = 1 |= 1 ;");
        PROBE.fault(1, "rent 1 = 1 |< 1 ;");
        value("( 1 < 2 ) < 3", 1);
        PROBE.says("SUM: PRODUCT { + or - PRODUCT }; PRODUCT: PART { * PART }");
        value("9 - 3 - 2", 4);
        value("9 - 3 + 2", 8);
        value("1 + 2 * 3", 7);
        value("2 * 3 * 4 - 1", 23);
        PROBE.fault(1, "rent |- 1 ;");
        PROBE.fault(1, "rent 1 + |;");
        PROBE.fault(1, "rent 2 * |- 1 ;");
        PROBE.fault(1, "rent |* 1 ;");
        PROBE.says("PART: a NUMBER, a fact, not PART, ( E )");
        value("9999", 999);
        value("not 0 * 5", 5);
        value("not 0 + 1", 2);
        value("not ( 0 + 1 )", 0);
        value("( 1 or 0 ) * 7", 7);
        value("2 + not 0", 3);
        value("2 + not 5", 2);
        value("3 * not 0 + 4 * not 9", 3);
        PROBE.fault(1, "rent not |;");
        PROBE.fault(1, "rent ( |) ;");
        PROBE.fault(1, "rent ( 1 |;");
        PROBE.fault(1, "rent 1 |) ;");
        PROBE.fault(1, "rent 1 |not 1 ;");
        PROBE.fault(1, "rent |gg ;");
    }

    /** An E that fills the TAPE, again and again, and one that leaves as much open as can be. */
    private static void longestE() {
        PROBE.says("E: any number of TESTS, PRODUCTS and PARTS that the TAPE has room for");
        PaneSpots x = new PaneSpots();
        String text = "floor 1 1;guild a likes 0 owes 0;pane 0 0 of a colour 1;east 0;deep 0;dark week or hour;rent 1";
        String[] joins = {"+1", "*1", " or 0", "-0"};
        for (int n = 0; n < 8; n++) {
            String join = joins[n % 4];
            int times = (999 - text.length()) / join.length();
            PROBE.due("a full tape of " + join, Probe.tell(x, text + join.repeat(times) + ";"), 0);
            PROBE.due("its value", x.yields(0), n % 4 == 0 ? 1 + times : 1);
        }
        String open = "0 or 0 < 0 + 1 * ( ";
        for (int inner = 0; inner <= 1; inner++) {
            value(open.repeat(4) + "0 or 0 < 0 + 1 * " + inner + " ) ) ) )", inner);
        }
    }

    /** Each row of five of not and ( ): a PART may lie within its first four, not within all. */
    private static void withinFive() {
        PROBE.says("no PART lies within 5 of not and ( ); 5 not, or a PART, within 5 others");
        for (int row = 0; row < 32; row++) {
            StringBuilder four = new StringBuilder("rent ");
            StringBuilder closing = new StringBuilder();
            for (int i = 0; i < 4; i++) {
                boolean not = (row >> i & 1) == 1;
                four.append(not ? "not " : "( ");
                closing.append(not ? "" : " )");
            }
            PROBE.told(four + "1" + closing + " ;");
            PROBE.told(four + "mixed" + closing + " ;");
            PROBE.told(four + "1" + closing + " + " + four.substring(5) + "1" + closing + " ;");
            String five = four + (row < 16 ? "( " : "not ");
            PROBE.fault(5, five + "|1 ;");
            PROBE.fault(5, five + "|week ;");
            PROBE.fault(5, five + "|not 1 ;");
            PROBE.fault(5, five + "|( 1 ) ;");
        }
        PROBE.fault(5, "rent 1 + ( 2 * ( 3 < ( 4 and ( 5 - ( |6");
        PROBE.fault(5, "rent ( ( ( ( 1 ) ) ) ) + ( ( ( ( ( |1");
        value("( 1 + ( 1 + ( 1 + ( 1 + 1 ) ) ) )", 5);
        value("( 9 < ( 1 = ( 2 * ( 3 - 3 * 1 or 0 ) + 1 ) or 7 ) ) + 4", 4);
    }

    private static void factsOfEachLaw() {
        PROBE.says("Facts: week (0 to 51), hour (0 to 23)");
        PROBE.due("week 0", valueAt("week", 0, 23), 0);
        PROBE.due("week 51", valueAt("week", 51, 0), 51);
        PROBE.due("hour 0", valueAt("hour", 51, 0), 0);
        PROBE.due("hour 23", valueAt("hour", 0, 23), 23);
        PROBE.says("in east, deep also column, row (of the pane); in rent also x, y (of the SPOT), mixed");
        for (int law = 0; law < LAWS.length; law++) {
            for (int fact = 0; fact < FACTS.length; fact++) {
                boolean known = fact < 2 || law < 2 && fact < 4 || law == 3 && fact >= 4;
                if (known) {
                    PROBE.told(LAWS[law] + " " + FACTS[fact] + " ;");
                } else {
                    PROBE.fault(1, LAWS[law] + " |" + FACTS[fact] + " ;");
                    PROBE.fault(1, LAWS[law] + " not ( 1 + |" + FACTS[fact] + " ) ;");
                }
            }
        }
        PaneSpots x = PROBE.told("floor 8 8 ; " + GUILD + "pane 7 3 of gg colour 1 ; pane 0 3 of gg colour 1 ; dark week or hour ;"
            + " east row - column ; deep 0 - row + column ; rent x * 100 + y * 10 + mixed ;");
        PROBE.due("of pane 0", x.spot(0, 0, 0), 4 * 8 + 3);
        PROBE.due("x 3, y 4, mixed 1", x.yields(0), 341);
        PROBE.due("pane 1 is above the floor", x.spot(1, 0, 0), PaneSpots.NONE);
    }

    private static void oneOrZero() {
        PROBE.says("Of not, and, or, < and = comes 1 or 0; what is not 0 is so");
        value("7 and 9", 1);
        value("7 and 0", 0);
        value("0 and 7", 0);
        value("7 or 9", 1);
        value("0 or 9", 1);
        value("9 or 0", 1);
        value("0 or 0", 0);
        value("not 9", 0);
        value("not 1", 0);
        value("not 0", 1);
        value("( 0 - 1 ) and ( 0 - 2 )", 1);
        value("( 0 - 1 ) or 0", 1);
        value("not ( 0 - 1 )", 0);
        value("5 + ( 2 < 9 )", 6);
        value("5 + ( 9 = 9 )", 6);
    }

    private static void wrappedInts() {
        PROBE.says("ints wrap");
        // 65536 * 32768 is 2 to the 31st: as an int the least of all
        String least = "256 * 256 * 256 * 128";
        value(least + " < 0", 1);
        value(least + " - 1 < 0", 0);
        value(least + " + " + least, 0);
        value("0 - " + least + " < 0", 1);
        value(least + " * 2 + 7", 7);
        value("256 * 256 * 256 * 256 + 3", 3);
        value("0 < " + least + " - 1", 1);
        value("( " + least + " - 1 ) < ( " + least + " )", 0);
        PaneSpots x = PROBE.told("floor 8 1 ; " + GUILD + "pane 7 0 of gg colour 1 ; dark 0 ; deep 0 ;"
            + " east 256 * 256 * 256 * 128 - 7 + 256 * 256 * 256 * 128 ;");
        PROBE.due("column and east: 7 - 7", x.spot(0, 0, 0), 0);
        PaneSpots y = PROBE.told("floor 8 1 ; " + GUILD + "pane 7 0 of gg colour 1 ; dark 0 ; deep 0 ; east 256 * 256 * 256 * 128 - 1 ;");
        PROBE.due("column and east wrap below 0", y.spot(0, 0, 0), PaneSpots.NONE);
    }

    private static void withoutALine() {
        PROBE.says("Without a line: east hour - 12, deep row, dark hour < 6 or 18 < hour, rent 1");
        PaneSpots x = PROBE.told("floor 8 8 ; " + GUILD + "pane 6 3 of gg colour 1 ; pane 1 2 of gg colour 1 ;");
        for (int hour = 0; hour < 24; hour++) {
            boolean dark = hour < 6 || 18 < hour;
            int first = 6 + hour - 12;
            int second = 1 + hour - 12;
            PROBE.due("column 6, hour " + hour, x.spot(0, 51, hour), dark || first < 0 || first > 7 ? -1 : 24 + first);
            PROBE.due("column 1, hour " + hour, x.spot(1, 51, hour), dark || second < 0 || second > 7 ? -1 : 16 + second);
        }
        PROBE.due("rent 1, from 6 to 13", x.yields(0), 8 * 52);
        PROBE.due("rent 1, from 11 to 18", x.yields(1), 8 * 52);
        PaneSpots y = PROBE.told("floor 8 1 ; " + GUILD + "pane 0 0 of gg colour 1 ; east 0 ; deep 0 ;");
        PROBE.due("dark but for 6 to 18", y.yields(0), 13 * 52);
        PROBE.due("laws told stay till the next text", Probe.tell(y, "floor 8 8 ; " + GUILD + "pane 6 3 of gg colour 1 ;"), 0);
        PROBE.due("without them then", y.spot(0, 0, 13), 24 + 7);
    }

    private static void theEndIsAToken() {
        PROBE.says("the end being one at the text's length");
        endsEverywhere("", "floor 1 1 ;");
        endsEverywhere("", "guild hh likes 1 owes 2 ;");
        endsEverywhere(GUILD, "pane 0 0 of gg colour 1 ;");
        endsEverywhere("", "cloud 1 ;");
        endsEverywhere("", "rent ( not 1 + 2 ) * 3 < 4 and 5 = 6 ;");
        PROBE.fault(1, " ".repeat(995) + "floor|");
    }

    /** A line that ends behind each of its tokens but the last. */
    private static void endsEverywhere(String before, String line) {
        for (int at = line.indexOf(' '); at >= 0; at = line.indexOf(' ', at + 1)) {
            PROBE.fault(1, before + line.substring(0, at) + "|");
            PROBE.fault(1, before + line.substring(0, at) + " \n  |");
        }
        PROBE.told(before + line);
        PROBE.told(before + line + " \n ");
    }

    private static void firstAndLeast() {
        PROBE.says("of the first token from the left that is wrong the least");
        PROBE.fault(4, "floor |9 9 ; floor spot");
        PROBE.fault(3, GUILD + "guild |gg likes 9 owes ;");
        PROBE.fault(2, "pane 0 0 of |gg colour 9 ; cloud");
        PROBE.fault(4, "pane |8 4 of gg colour 9 ;");
        PROBE.fault(3, GUILD + "pane 0 0 of gg colour 1 ; pane 0 |0 of hh colour 0 ;");
        PROBE.says("the least: 1 it is none, or can't stand there");
        PROBE.fault(1, "rent ( ( ( ( ( |column");
        PROBE.fault(1, "rent ( ( ( ( ( |) ) ) ) ) ;");
        PROBE.fault(1, "rent not not not not not |;");
        PROBE.fault(1, "rent not not not not not |12345 ;");
        PROBE.fault(1, "rent not not not not not|");
        PROBE.fault(1, sixGuildsTold() + "cloud |guild");
        PROBE.fault(1, panesTold(12) + "cloud 1 |pane");
        PROBE.fault(1, "floor 1 |floor");
        PROBE.fault(1, "rent 1 |rent");
    }

    private static void allStaysBehindAFault() {
        PROBE.says("The TAPE is read as a CHAPEL: 0, or its FAULT (all stays then)");
        PaneSpots x = PROBE.told("floor 5 6 ; guild a likes 1 owes 2 ; guild b likes 3 owes 4 ; pane 0 0 of a colour 1 ;"
            + " pane 1 1 of b colour 2 ; east 1 ; deep 2 ; dark 0 ; rent 7 ; cloud 8 ;");
        x.exchange(0, 1);
        x.breaks(1, false);
        x.see(4, 5, 6);
        x.mark(2, false);
        int fault = Probe.tell(x, "floor 1 1 ; guild c likes 5 owes 6 ; pane 5 3 of c colour 5 ; east 0 ; deep 0 ; dark 1 ; rent 9 ; cloud 0 ; !");
        PROBE.due("fault", fault % 16, 1);
        int[] counts = {5, 6, 2, 2, 1, 2, 1, 8, 0};
        for (int what = 0; what < counts.length; what++) {
            PROBE.due("count " + what, x.count(what), counts[what]);
        }
        PROBE.due("likes", x.guild(0, 0), 1);
        PROBE.due("owes", x.guild(1, 1), 4);
        PROBE.due("column", x.pane(0, 0), 0);
        PROBE.due("row", x.pane(1, 1), 1);
        PROBE.due("guild", x.pane(0, 2), 1);
        PROBE.due("colour", x.pane(0, 3), 1);
        PROBE.due("spot", x.spot(0, 0, 0), 2 * 8 + 1);
        PROBE.due("yields", x.yields(0), 7 * 1248);
        PROBE.due("candles", x.candles(0, 0), 1);
        PROBE.due("mark", x.mark(2, true), true);
    }

    /** One object reads many texts: none knows of those before it, be they right or wrong. */
    private static void nothingOfOtherTexts() {
        PROBE.says("(4 and 4 without), (0 without), Without a line: of this text, whatever was read before");
        String full = "floor 8 7 ; guild gg likes 7 owes 9 ; pane 0 0 of gg colour 7 ; east 1 ; deep 1 ; dark 1 ; rent 9 ; cloud 5 ; ";
        PaneSpots x = new PaneSpots();
        for (int n = 0; n < 3; n++) {
            PROBE.due("a full one", Probe.tell(x, full), 0);
            PROBE.due("a faulty one", Probe.tell(x, full + "!"), 1 + 16 * full.length());
            PROBE.due("its guild is not told", Probe.tell(x, "pane 0 0 of gg colour 1 ;"), 2 + 16 * 12);
            PROBE.due("the full one stays", x.count(0) * 100 + x.count(2) * 10 + x.count(3), 811);
            PROBE.due("a bare one", Probe.tell(x, "guild hh likes 0 owes 0 ; pane 0 0 of hh colour 1 ;"), 0);
            PROBE.due("floor, guilds, panes, cloud", x.count(0) * 10000 + x.count(1) * 1000 + x.count(2) * 100 + x.count(3) * 10 + x.count(7), 44110);
            PROBE.due("dark, east, deep without a line", x.spot(0, 0, 13), 1);
            PROBE.due("rent without a line, from 12 to 15", x.yields(0), 4 * 52);
            for (int m = 0; m <= n; m++) {
                PROBE.due("an empty one", x.chapel(), 0);
                PROBE.due("nobody", x.count(2) + x.count(3), 0);
            }
        }
    }

    private static void otherLawsFromThenOn() {
        PROBE.says("Without a FAULT it is the CHAPEL from then on");
        String text = "floor 8 8 ; guild a likes 0 owes 1000 ; pane 0 0 of a colour 1 ; dark hour ; ";
        PaneSpots x = PROBE.told(text + "east 1 ; deep 2 ; rent 10 ;");
        x.see(3, 4, 1);
        int[] before = {x.spot(0, 0, 0), x.yields(0), x.fallen(), x.stall(0, 0, 0, 0, 0), x.stains(0, 0, 1, 1), x.candles(0, 0)};
        int[] due = {17, 520, 1, 17, 1, 1};
        for (int i = 0; i < due.length; i++) {
            PROBE.due("before, " + i, before[i], due[i]);
        }
        PROBE.due("the same pane, by other laws", Probe.tell(x, text + "east 3 ; deep 4 ; rent 20 ;"), 0);
        PROBE.due("spot", x.spot(0, 0, 0), 35);
        PROBE.due("place", x.place(1, 2, 0, 0, 2), 0);
        PROBE.due("yields", x.yields(0), 1040);
        PROBE.due("fallen", x.fallen(), 0);
        PROBE.due("stall", x.stall(0, 0, 0, 0, 0), 35);
        x.see(3, 4, 1);
        PROBE.due("candles", x.candles(0, 0), 0);
    }

    private static void fromThenOn() {
        PROBE.says("Without a FAULT it is the CHAPEL from then on: no pane is BROKEN, nothing is SEEN, nothing can be undone, no MARK is there");
        String text = "guild a likes 0 owes 0 ; guild b likes 0 owes 0 ; pane 0 0 of a colour 1 ; pane 1 0 of b colour 1 ;";
        PaneSpots x = PROBE.told(text);
        x.exchange(0, 1);
        x.breaks(0, false);
        x.breaks(1, false);
        x.see(0, 0, 1);
        for (int mark = 0; mark < 4; mark++) {
            x.mark(mark, false);
        }
        PROBE.due("read", Probe.tell(x, text), 0);
        PROBE.due("whole", x.count(4) + x.pane(0, 4) + x.pane(1, 4), 0);
        PROBE.due("seen", x.count(6), 0);
        PROBE.due("undone", x.count(5), 0);
        PROBE.due("undo", x.undo(), false);
        for (int mark = 0; mark < 4; mark++) {
            PROBE.due("mark " + mark, x.mark(mark, true), false);
        }
        PROBE.due("as told", x.pane(0, 2) * 10 + x.pane(1, 2), 1);
    }
}
