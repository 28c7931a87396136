/** The boundary cases that the document names of the TAPE and its TOKENS (Terms, promise 2), sentence by sentence. */
public final class BoundsTapeTest {
    private static final Probe PROBE = new Probe("BoundsTapeTest");
    private static final long BLANKS = 0x2020202020202020L;

    public static void main(String[] args) {
        atMostAThousand();
        whatIsBeyondIsLeftOut();
        whichSigns();
        upToTwentyFour();
        highestFirst();
        howManyThereAre();
        readingTakesIt();
        words();
        wordsAsLongAsCanBe();
        numbers();
        letterBehindANumber();
        signs();
        blanks();
        PROBE.end();
    }

    /** A new object with so many blanks on its TAPE. */
    private static PaneSpots blank(int size) {
        PaneSpots x = new PaneSpots();
        Probe.feed(x, " ".repeat(size));
        PROBE.due("blanks on the tape", x.count(8), size);
        return x;
    }

    private static void atMostAThousand() {
        PROBE.says("The TAPE has at most 1,000 signs");
        PaneSpots x = blank(999);
        PROBE.due("the 1,000th", x.feed(';', 0, 0), 1000);
        PROBE.due("the 1,001st", x.feed(';', 0, 0), 1000);
        PROBE.due("24 beyond", x.feed(BLANKS, BLANKS, BLANKS), 1000);
        PROBE.due("none beyond", x.feed(0, 0, 0), 1000);
        PROBE.due("count", x.count(8), 1000);
        PROBE.due("the 1,000th is there", x.chapel(), 1 + 16 * 999);
        PaneSpots y = blank(989);
        PROBE.due("a line that just fits", Probe.tell(y, "floor 2 3 ;"), 0);
        PROBE.due("wide", y.count(0), 2);
        PROBE.due("deep", y.count(1), 3);
        PROBE.due("a number as the last sign", Probe.tell(blank(993), "cloud 1"), 1 + 16 * 1000);
        PROBE.due("a word as the last sign", Probe.tell(blank(993), "guild a"), 1 + 16 * 1000);
        PROBE.due("a blank as the last sign", Probe.tell(blank(992), "cloud 1 "), 1 + 16 * 1000);
    }

    private static void whatIsBeyondIsLeftOut() {
        PROBE.says("others than 10 and 32 .. 126, and what is beyond 1,000, are left out");
        PROBE.due("a line too long by one: the end, at 1,000", Probe.tell(blank(990), "floor 2 3 ;"), 1 + 16 * 1000);
        PROBE.due("of one call the first are kept", Probe.tell(blank(995), "floor 2 3 ;"), 1 + 16 * 1000);
        PaneSpots x = blank(999);
        PROBE.due("what is left out takes no room", x.feed(0x0102030405060708L, 0x7F8090A0B0C0D0FFL, 0x61), 1000);
        PROBE.due("the sign behind it", x.chapel(), 1 + 16 * 999);
        PaneSpots y = blank(1000);
        y.chapel();
        PROBE.due("taken, there is room again", Probe.feed(y, "floor 2 3 ;"), 11);
    }

    private static void whichSigns() {
        PROBE.says("others than 10 and 32 .. 126 are left out");
        PaneSpots x = new PaneSpots();
        int size = 0;
        for (int sign = 0; sign < 256; sign++) {
            boolean kept = sign == 10 || sign >= 32 && sign <= 126;
            size += kept ? 1 : 0;
            PROBE.due("lowest byte " + sign, x.feed(0, 0, sign), size);
        }
        PaneSpots y = new PaneSpots();
        size = 0;
        for (int sign = 0; sign < 256; sign++) {
            boolean kept = sign == 10 || sign >= 32 && sign <= 126;
            size += kept ? 1 : 0;
            PROBE.due("highest byte " + sign, y.feed((long) sign << 56, 0, 0), size);
        }
        PROBE.due("a sign left out parts no word", Probe.tell(new PaneSpots(), "flo\u0000or\t 1\r1 \u007f1\u00ff;"), 4 + 16 * 6);
    }

    private static void upToTwentyFour() {
        PROBE.says("Up to 24 signs come behind the TAPE");
        PaneSpots x = new PaneSpots();
        PROBE.due("none", x.feed(0, 0, 0), 0);
        for (int i = 0; i < 24; i++) {
            long sign = 0x61L << 8 * (7 - i % 8);
            PROBE.due("one sign at " + i, x.feed(i < 8 ? sign : 0, i / 8 == 1 ? sign : 0, i > 15 ? sign : 0), i + 1);
        }
        PROBE.due("24", x.feed(BLANKS, BLANKS, BLANKS), 48);
    }

    private static void highestFirst() {
        PROBE.says("the bytes of a, b, c, of each the highest first");
        PaneSpots x = new PaneSpots();
        // "floor 12", "3 4     ", "  ;     " would be too wide; the place of 123 tells the order
        x.feed(0x666C6F6F72203132L, 0x3320342020202020L, 0x20203B2020202020L);
        PROBE.due("floor 123", x.chapel(), 4 + 16 * 6);
        PaneSpots y = new PaneSpots();
        y.feed(0x666C6F6F72202020L, 0x2020202020202035L, 0x2020202020203620L);
        y.feed(0x3B00000000000000L, 0, 0);
        PROBE.due("floor 5 6 ;", y.chapel(), 0);
        PROBE.due("wide", y.count(0), 5);
        PROBE.due("deep", y.count(1), 6);
    }

    private static void howManyThereAre() {
        PROBE.says("how many there are");
        PaneSpots x = new PaneSpots();
        PROBE.due("three", x.feed(0x6161, 0, 0x61), 3);
        PROBE.due("with those of before", x.feed(0x6161, 0, 0), 5);
        PROBE.due("none more", x.feed(-1L, -1L, -1L), 5);
    }

    private static void readingTakesIt() {
        PROBE.says("what reads it takes it: it is empty then");
        PaneSpots x = new PaneSpots();
        PROBE.due("read", Probe.tell(x, "cloud 3 ;"), 0);
        PROBE.due("empty", x.count(8), 0);
        PROBE.due("a fault", Probe.tell(x, "cloud 9 ;"), 4 + 16 * 6);
        PROBE.due("empty behind a fault", x.count(8), 0);
        PROBE.due("places count from 0 again", Probe.tell(x, "cloud 9 ;"), 4 + 16 * 6);
        PROBE.due("nothing of a longer text is left behind its end", Probe.tell(x, "cloud 1234 ; rent 5 ;"), 4 + 16 * 6);
        PROBE.due("a number at the end", Probe.tell(x, "cloud 1"), 1 + 16 * 7);
        PROBE.due("a word at the end", Probe.tell(x, "cloud 1 ; re"), 1 + 16 * 10);
        PROBE.due("a sign at the end", Probe.tell(x, "rent 1 ;"), 0);
        PROBE.due("empty, it is a chapel", x.chapel(), 0);
        PROBE.due("without a cloud", x.count(7), 0);
    }

    private static void words() {
        PROBE.says("WORDS (letters a .. z, 8 at most)");
        PROBE.told("guild abcdefgh likes 0 owes 0 ; pane 0 0 of abcdefgh colour 1 ;");
        PROBE.told("guild a likes 0 owes 0 ; guild z likes 0 owes 0 ; guild zzzzzzzz likes 0 owes 0 ;");
        PROBE.fault(2, "guild abcdefgh likes 0 owes 0 ; pane 0 0 of |abcdefgi");
        PROBE.fault(2, "guild abcdefgh likes 0 owes 0 ; pane 0 0 of |bbcdefgh");
        PROBE.fault(2, "guild aaaaaaaa likes 0 owes 0 ; pane 0 0 of |aaaaaaa");
        PROBE.fault(1, "guild |abcdefghi likes 0 owes 0 ;");
        PROBE.fault(1, "guild a|` likes");
        PROBE.fault(1, "guild a|{ likes");
        PROBE.fault(1, "guild a|A likes");
        PROBE.fault(1, "guild a|Z likes");
        PROBE.fault(1, "guild |A likes");
        PROBE.says("All else (a longer WORD or NUMBER, too, at its first sign) is none");
        PROBE.fault(1, "guild |abcdefghijklmnop likes");
        PROBE.fault(1, "|floorfloor 1 1 ;");
        PROBE.fault(1, "guild |" + "a".repeat(500) + " likes");
        PROBE.fault(1, "cloud |12345");
        PROBE.fault(1, "cloud |00000");
        PROBE.fault(1, "cloud |" + "0".repeat(900) + "1 ;");
        PROBE.fault(1, "cloud |4294967297 ;");
    }

    private static void wordsAsLongAsCanBe() {
        PROBE.says("TOKENS, each as long as can be");
        PROBE.fault(1, "|floors 1 1 ;");
        PROBE.fault(1, "|flo or 1 1 ;");
        PROBE.fault(1, "guild alikes |0 owes 0 ;");
        PROBE.fault(1, "rent |notx ;");
        PROBE.fault(1, "rent 1 |andx ;");
        PROBE.fault(1, "rent 1 |2 ;");
        PROBE.told("rent 12 ;");
    }

    private static void numbers() {
        PROBE.says("NUMBERS (1 to 4 digits");
        PROBE.told("floor 1 1 ; guild a likes 0 owes 9999 ;");
        PROBE.due("0000 is 0", PROBE.told("cloud 0000 ;").count(7), 0);
        PROBE.due("0008 is 8", PROBE.told("cloud 0008 ;").count(7), 8);
        PROBE.due("08 is 8", PROBE.told("cloud 08 ;").count(7), 8);
        PROBE.fault(4, "cloud |0009 ;");
        PROBE.fault(1, "cloud |00008 ;");
        PROBE.fault(1, "cloud |/ ;");
        PROBE.fault(1, "cloud |: ;");
        PROBE.fault(1, "cloud 1|: ;");
        PROBE.fault(1, "cloud |-1 ;");
        for (int digit = 0; digit <= 9; digit++) {
            PaneSpots x = PROBE.told("guild a likes 0 owes " + digit * 1111 + " ;");
            PROBE.due("owes", x.guild(0, 1), digit * 1111);
        }
    }

    private static void letterBehindANumber() {
        PROBE.says("a letter may stand right behind");
        PaneSpots x = PROBE.told("guild a likes 7owes 1234;pane 7 3of a colour 7;rent 2and 3or x;");
        PROBE.due("likes", x.guild(0, 0), 7);
        PROBE.due("owes", x.guild(0, 1), 1234);
        PROBE.due("row", x.pane(0, 1), 3);
        PROBE.fault(1, "cloud 1|x ;");
        PROBE.fault(1, "guild a|1 likes 0 owes 0 ;");
    }

    private static void signs() {
        PROBE.says("the signs ( ) < = + - * ;  All else is none");
        PROBE.told("rent ( 1 ) < 2 ; deep 1 = 2 + 3 - 4 * 5 ;");
        String tokens = "()<=+-*;";
        for (char sign = 33; sign <= 126; sign++) {
            boolean letterOrDigit = sign >= 'a' && sign <= 'z' || sign >= '0' && sign <= '9';
            if (!letterOrDigit && tokens.indexOf(sign) < 0) {
                PROBE.fault(1, "cloud 1 ; |" + sign);
                PROBE.fault(1, "rent 1 |" + sign + " 1 ;");
                PROBE.fault(1, "cloud 1|" + sign + ";");
            }
        }
        PROBE.fault(1, "rent 1 <|= 1 ;");
        PROBE.fault(1, "rent 1 *|* 1 ;");
    }

    private static void blanks() {
        PROBE.says("blanks (10, 32) between where one likes");
        PROBE.told("floor1 1;cloud1;rent(1)<x+y*2-not mixed;");
        PROBE.told("\n \nfloor\n1\n\n 1 \n;\n");
        PROBE.told("   ");
        PROBE.told("\n");
        PROBE.fault(1, "|fl\noor 1 1 ;");
        PROBE.fault(1, "cloud 1 |0 ;");
        PROBE.fault(4, "floor 1 \n |9 ;");
    }
}
