import java.util.Arrays;
import java.util.NoSuchElementException;

/** A chapel's floor, owned spot by spot by the guilds whose panes colour it. */
public final class PaneSpots {

    /** None. */
    public static final int NONE = -1;

    private static final int HOURS = 24;
    private static final int TIMES = 52 * HOURS;
    private static final int SIDE = 8;
    private static final int PLACES = SIDE * SIDE;
    private static final int MOST_SIGNS = 1000;
    private static final int MOST_GUILDS = 6;
    private static final int MOST_PANES = 12;
    private static final int MOST_SEEN = 8;
    private static final int MOST_STAINS = 6;
    private static final int MOST_UNDONE = 20;
    private static final int MARKS = 4;
    private static final int MOST_SEED = 9999;

    private final Reader reader;
    private final Light light;
    private final Hold hold;
    private final History history;
    private final Rents rents;
    private final Trade trade;
    private final Way way;
    private final Walk walk;
    private final Hold[] marks;
    private int laid;

    /** A floor of 4 by 4, no pane. */
    public PaneSpots() {
        reader = new Reader();
        light = new Light();
        hold = new Hold();
        history = new History();
        rents = new Rents();
        trade = new Trade();
        way = new Way();
        walk = new Walk();
        marks = new Hold[MARKS];
        for (int i = 0; i < MARKS; i++) {
            marks[i] = new Hold();
        }
        laid = 0;
    }

    /** The bytes of a, b, c come behind the TAPE: how many signs are on it. */
    public int feed(long a, long b, long c) {
        reader.tape.add(a);
        reader.tape.add(b);
        reader.tape.add(c);
        return reader.tape.size;
    }

    /** The TAPE is read as a CHAPEL: 0, or its FAULT. */
    public int chapel() {
        int fault = reader.readAll();
        if (fault == 0) {
            reader.draft = light.enter(reader.draft);
            hold.begin(light.chapel);
            history.forget();
            rents.forget();
            laid = 0;
        }
        return fault;
    }

    /** Of a GUILD, what 0: likes, 1: owes, 2: its panes as bits. */
    public int guild(int guild, int what) {
        if (!isGuild(guild)) {
            return NONE;
        }
        switch (what) {
            case 0:
                return light.chapel.likes[guild];
            case 1:
                return light.chapel.owes[guild];
            case 2:
                return hold.panesOf(guild);
            default:
                return NONE;
        }
    }

    /** Of a pane, what 0: column, 1: row, 2: its GUILD, 3: colour, 4: 1 if it is BROKEN. */
    public int pane(int pane, int what) {
        if (!isPane(pane)) {
            return NONE;
        }
        switch (what) {
            case 0:
                return light.chapel.column[pane];
            case 1:
                return light.chapel.row[pane];
            case 2:
                return hold.guildOf[pane];
            case 3:
                return light.chapel.colour[pane];
            case 4:
                return hold.isBroken(pane) ? 1 : 0;
            default:
                return NONE;
        }
    }

    /** SPOT of a pane as y * 8 + x. */
    public int spot(int pane, int week, int hour) {
        if (!isPane(pane) || !isTime(week, hour) || hold.isBroken(pane)) {
            return NONE;
        }
        light.turnTo(timeOf(week, hour));
        return light.spots[pane];
    }

    /** Of a place at a TIME, what 0: GUILDS that own it, 1: COLOUR, 2: how many panes' light. */
    public int place(int x, int y, int week, int hour, int what) {
        if (!light.chapel.hasPlace(x, y) || !isTime(week, hour)) {
            return NONE;
        }
        light.turnTo(timeOf(week, hour));
        int panes = light.panesOn(placeOf(x, y), hold.lit());
        switch (what) {
            case 0:
                return hold.ownersOf(panes);
            case 1:
                return light.chapel.colourOf(panes);
            case 2:
                return Integer.bitCount(panes);
            default:
                return NONE;
        }
    }

    /** YIELD of a pane. */
    public int yields(int pane) {
        if (!isPane(pane)) {
            return NONE;
        }
        return rents.given(yearNow(), pane);
    }

    /** RENTS of a GUILD. */
    public int rents(int guild) {
        if (!isGuild(guild)) {
            return NONE;
        }
        return rents.givenBy(yearNow(), hold.panesOf(guild));
    }

    /** What a pane is WORTH to a GUILD. */
    public int worth(int guild, int pane) {
        if (!isGuild(guild) || !isPane(pane)) {
            return NONE;
        }
        return rents.worthTo(light.chapel, yearNow(), guild, pane);
    }

    /** GAIN of an EXCHANGE, if it is FAIR; else 0. */
    public int gain(int a, int b) {
        if (!canExchange(a, b)) {
            return NONE;
        }
        return rents.gainOf(light.chapel, hold, yearNow(), a, b);
    }

    /** BEST, what NONE: its GAIN; else what a pane is exchanged for. */
    public int best(int what) {
        if (what != NONE && !isPane(what)) {
            return NONE;
        }
        trade.settle(light.chapel, hold, rents, yearNow());
        return what == NONE ? trade.together : trade.other[what];
    }

    /** An EXCHANGE by hand, FAIR or not. */
    public boolean exchange(int a, int b) {
        if (!canExchange(a, b)) {
            return false;
        }
        hold.swap(a, b);
        history.note(a, b);
        return true;
    }

    /** BREAK (mend). */
    public boolean breaks(int pane, boolean mend) {
        if (!isPane(pane) || hold.isBroken(pane) != mend) {
            return false;
        }
        hold.turn(pane);
        history.note(pane, NONE);
        return true;
    }

    /** FALLEN as bits. */
    public int fallen() {
        rents.fall(light, hold);
        int bits = 0;
        for (int g = 0; g < MOST_GUILDS; g++) {
            if (rents.round[g] > 0) {
                bits |= 1 << g;
            }
        }
        return bits;
    }

    /** In which round a GUILD falls (1 first); 0: it stands. */
    public int falls(int guild) {
        if (!isGuild(guild)) {
            return NONE;
        }
        rents.fall(light, hold);
        return rents.round[guild];
    }

    /** UNDO. */
    public boolean undo() {
        return history.takeBack(hold);
    }

    /** WAY of a STALL from an hour to an hour of a week, what NONE: steps; i: its i-th place. */
    public int stall(int guild, int week, int hour, int last, int what) {
        if (!isGuild(guild) || !isTime(week, hour) || !isTime(week, last) || last < hour) {
            return NONE;
        }
        int hours = last - hour + 1;
        if (what < NONE || what >= hours) {
            return NONE;
        }
        way.find(light, hold.panesOf(guild) & hold.lit(), timeOf(week, hour), hours);
        return what == NONE ? way.steps : way.places[what];
    }

    /** SEEN: how much is. */
    public int see(int x, int y, int colour) {
        if (!light.chapel.hasPlace(x, y) || colour < 0 || colour > 7) {
            return NONE;
        }
        return hold.keepSeen(placeOf(x, y), colour);
    }

    /** CANDLES at a TIME. */
    public int candles(int week, int hour) {
        if (!isTime(week, hour)) {
            return NONE;
        }
        return candlesAt(timeOf(week, hour));
    }

    /** WHEN, what 0: week * 24 + hour, 1: CANDLES, 2: how many TIMES. */
    public int when(int what) {
        if (what < 0 || what > 2) {
            return NONE;
        }
        int first = 0;
        int fewest = MOST_SEEN + 1;
        int times = 0;
        for (int time = 0; time < TIMES; time++) {
            int needed = candlesAt(time);
            if (needed < fewest) {
                fewest = needed;
                first = time;
                times = 0;
            }
            if (needed == fewest) {
                times++;
            }
        }
        if (what == 0) {
            return first;
        }
        return what == 1 ? fewest : times;
    }

    /** Nothing is SEEN. */
    public boolean clear() {
        hold.seen = 0;
        return true;
    }

    /** STAINS: how many rows of places. */
    public int stains(int week, int hour, int hours, int colours) {
        if (!isStained(week, hour, hours, colours)) {
            return NONE;
        }
        return walk.rowsOf(light, hold.lit(), timeOf(week, hour), hours, colours);
    }

    /** GUILDS in whose light one was at the i-th hour in all rows (some: in some), as bits. */
    public int stood(int week, int hour, int hours, int colours, int i, boolean some) {
        if (!isStained(week, hour, hours, colours) || i < 0 || i >= hours) {
            return NONE;
        }
        walk.meet(light, hold.lit(), timeOf(week, hour), hours, colours, i);
        return some ? ownersOnSome() : ownersOnAll();
    }

    /** By CLOUDS of a SEED, RENTS of a GUILD (NONE: how many have less than they owe). */
    public int clouded(int seed, int guild) throws NoSuchElementException {
        if (seed < 0 || seed > MOST_SEED || guild != NONE && !isGuild(guild)) {
            throw new NoSuchElementException("no such seed or guild");
        }
        int year = rents.cloudedYear(light, hold.lit(), seed);
        if (guild != NONE) {
            return rents.givenBy(year, hold.panesOf(guild));
        }
        int poor = 0;
        for (int g = 0; g < light.chapel.guilds; g++) {
            if (rents.givenBy(year, hold.panesOf(g)) < light.chapel.owes[g]) {
                poor++;
            }
        }
        return poor;
    }

    /** A MARK is laid (back: gone back to). */
    public boolean mark(int mark, boolean back) {
        if (mark < 0 || mark >= MARKS) {
            return false;
        }
        if (!back) {
            marks[mark].copy(hold);
            laid |= 1 << mark;
            return true;
        }
        if ((laid >> mark & 1) == 0) {
            return false;
        }
        hold.copy(marks[mark]);
        history.forget();
        return true;
    }

    /** How many there are of what the document numbers. */
    public int count(int what) {
        switch (what) {
            case 0:
                return light.chapel.wide;
            case 1:
                return light.chapel.deep;
            case 2:
                return light.chapel.guilds;
            case 3:
                return light.chapel.panes;
            case 4:
                return Integer.bitCount(hold.broken);
            case 5:
                return history.size;
            case 6:
                return hold.seen;
            case 7:
                return light.chapel.cloud;
            case 8:
                return reader.tape.size;
            default:
                return NONE;
        }
    }

    private boolean isGuild(int guild) {
        return guild >= 0 && guild < light.chapel.guilds;
    }

    private boolean isPane(int pane) {
        return pane >= 0 && pane < light.chapel.panes;
    }

    private boolean canExchange(int a, int b) {
        return isPane(a) && isPane(b) && hold.guildOf[a] != hold.guildOf[b];
    }

    private boolean isStained(int week, int hour, int hours, int colours) {
        return isTime(week, hour) && hours >= 1 && hours <= MOST_STAINS && hour + hours <= HOURS
            && colours >= 0 && colours < 1 << 3 * hours;
    }

    private static boolean isTime(int week, int hour) {
        return week >= 0 && week < TIMES / HOURS && hour >= 0 && hour < HOURS;
    }

    private static int timeOf(int week, int hour) {
        return week * HOURS + hour;
    }

    private static int placeOf(int x, int y) {
        return y * SIDE + x;
    }

    private static int stepsBetween(int place, int other) {
        return Math.abs(place % SIDE - other % SIDE) + Math.abs(place / SIDE - other / SIDE);
    }

    private int yearNow() {
        return rents.yearOf(light, hold.lit());
    }

    private int candlesAt(int time) {
        light.turnTo(time);
        int lit = hold.lit();
        int needed = 0;
        for (int i = 0; i < hold.seen && i < MOST_SEEN; i++) {
            if (light.colourOn(hold.seenPlace[i], lit) != hold.seenColour[i]) {
                needed++;
            }
        }
        return needed;
    }

    private int ownersOnSome() {
        int bits = NONE;
        for (int place = 0; place < PLACES; place++) {
            if (walk.passes(place)) {
                int owners = hold.ownersOf(light.panesOn(place, hold.lit()));
                bits = bits == NONE ? owners : bits | owners;
            }
        }
        return bits;
    }

    private int ownersOnAll() {
        int bits = NONE;
        for (int place = 0; place < PLACES; place++) {
            if (walk.passes(place)) {
                // NONE has all bits, so the first place's owners stay as they are.
                bits &= hold.ownersOf(light.panesOn(place, hold.lit()));
            }
        }
        return bits;
    }

    /** The signs fed, and the token that is being looked at. */
    private static final class Tape {
        // Of a sign that is a token the kind is its own code, so words start above all signs.
        static final int NO_TOKEN = 0;
        static final int END = 1;
        static final int NUMBER = 2;
        static final int FLOOR = 128;
        static final int GUILD = 129;
        static final int LIKES = 130;
        static final int OWES = 131;
        static final int PANE = 132;
        static final int OF = 133;
        static final int COLOUR = 134;
        static final int EAST = 135;
        static final int DEEP = 136;
        static final int DARK = 137;
        static final int RENT = 138;
        static final int CLOUD = 139;
        static final int NOT = 140;
        static final int AND = 141;
        static final int OR = 142;
        static final int WEEK = 143;
        static final int HOUR = 144;
        static final int COLUMN = 145;
        static final int ROW = 146;
        static final int X = 147;
        static final int Y = 148;
        static final int MIXED = 149;
        static final int OTHER_WORD = 150;

        // In the order of the kinds above, a blank behind each.
        private static final String WORDS =
            "floor guild likes owes pane of colour east deep dark rent cloud not and or week hour column row x y mixed ";
        private static final String SIGNS = "()<=+-*;";
        private static final int LONGEST_WORD = 8;
        private static final int LONGEST_NUMBER = 4;

        private final byte[] signs;
        int size;
        private int at;
        int start;
        int kind;
        int number;
        long word;

        Tape() {
            signs = new byte[MOST_SIGNS];
            size = 0;
            at = 0;
            start = 0;
            kind = END;
            number = 0;
            word = 0;
        }

        void add(long bytes) {
            for (int shift = 56; shift >= 0; shift -= 8) {
                int sign = (int) (bytes >>> shift) & 255;
                if (isFed(sign) && size < MOST_SIGNS) {
                    signs[size] = (byte) sign;
                    size++;
                }
            }
        }

        void rewind() {
            at = 0;
            next();
        }

        void next() {
            while (at < size && isBlank(signs[at])) {
                at++;
            }
            start = at;
            if (at >= size) {
                kind = END;
            } else if (isLetter(signs[at])) {
                takeLetters();
                kind = at - start > LONGEST_WORD ? NO_TOKEN : kindOfWord();
            } else if (isDigit(signs[at])) {
                takeDigits();
                kind = at - start > LONGEST_NUMBER ? NO_TOKEN : NUMBER;
            } else {
                kind = SIGNS.indexOf((char) signs[at]) >= 0 ? signs[at] : NO_TOKEN;
                at++;
            }
        }

        boolean isName() {
            return kind >= WEEK;
        }

        boolean isFact() {
            return kind >= WEEK && kind <= MIXED;
        }

        private void takeLetters() {
            // Five bits a letter tell words of up to eight letters apart.
            word = 0;
            while (at < size && isLetter(signs[at])) {
                word = word * 32 + (signs[at] - 'a' + 1);
                at++;
            }
        }

        private void takeDigits() {
            number = 0;
            while (at < size && isDigit(signs[at])) {
                number = number * 10 + (signs[at] - '0');
                at++;
            }
        }

        private int kindOfWord() {
            int found = FLOOR;
            int letters = 0;
            boolean like = true;
            for (int i = 0; i < WORDS.length(); i++) {
                char letter = WORDS.charAt(i);
                if (letter != ' ') {
                    like = like && start + letters < at && signs[start + letters] == letter;
                    letters++;
                } else if (like && start + letters == at) {
                    return found;
                } else {
                    found++;
                    letters = 0;
                    like = true;
                }
            }
            return OTHER_WORD;
        }

        private static boolean isFed(int sign) {
            return sign == 10 || sign >= 32 && sign <= 126;
        }

        private static boolean isBlank(int sign) {
            return sign == 10 || sign == 32;
        }

        private static boolean isLetter(int sign) {
            return sign >= 'a' && sign <= 'z';
        }

        private static boolean isDigit(int sign) {
            return sign >= '0' && sign <= '9';
        }
    }

    /**
     * Reads the TAPE into a draft, so that a FAULT leaves the chapel alone. What reads a part
     * answers 0 or the kind of FAULT of the token that is being looked at then.
     */
    private static final class Reader {
        private static final int CANT_STAND = 1;
        private static final int NO_GUILD = 2;
        private static final int TOLD_ALREADY = 3;
        private static final int NOT_AS_TOLD = 4;
        private static final int ONE_TOO_MANY = 5;
        private static final int MOST_WITHIN = 5;

        final Tape tape;
        Chapel draft;
        private int told;
        private int taken;
        private int law;

        Reader() {
            tape = new Tape();
            draft = new Chapel();
            told = 0;
            taken = 0;
            law = Tape.EAST;
        }

        int readAll() {
            draft.begin();
            told = 0;
            tape.rewind();
            int bad = 0;
            for (int n = 0; n <= MOST_SIGNS && bad == 0 && tape.kind != Tape.END; n++) {
                bad = readLine();
            }
            tape.size = 0;
            return bad == 0 ? 0 : bad + 16 * tape.start;
        }

        private int readLine() {
            switch (tape.kind) {
                case Tape.FLOOR:
                    return readFloor();
                case Tape.GUILD:
                    return readGuild();
                case Tape.PANE:
                    return readPane();
                case Tape.EAST:
                case Tape.DEEP:
                case Tape.DARK:
                case Tape.RENT:
                    return readLaw();
                case Tape.CLOUD:
                    return readCloud();
                default:
                    return CANT_STAND;
            }
        }

        private int readFloor() {
            int bad = takeOnce();
            if (bad == 0) {
                bad = takeNumber(1, SIDE);
            }
            if (bad == 0) {
                draft.wide = taken;
                bad = takeNumber(1, SIDE);
            }
            if (bad == 0) {
                draft.deep = taken;
                bad = take(';');
            }
            return bad;
        }

        private int readGuild() {
            int guild = draft.guilds;
            if (guild >= MOST_GUILDS) {
                return ONE_TOO_MANY;
            }
            tape.next();
            int bad = takeNewName(guild);
            if (bad == 0) {
                bad = take(Tape.LIKES);
            }
            if (bad == 0) {
                bad = takeNumber(0, 7);
            }
            if (bad == 0) {
                draft.likes[guild] = taken;
                bad = take(Tape.OWES);
            }
            if (bad == 0) {
                bad = takeNumber(0, 9999);
            }
            if (bad == 0) {
                draft.owes[guild] = taken;
                bad = take(';');
            }
            if (bad == 0) {
                draft.guilds++;
            }
            return bad;
        }

        private int takeNewName(int guild) {
            if (!tape.isName()) {
                return CANT_STAND;
            }
            if (draft.guildNamed(tape.word) != NONE) {
                return TOLD_ALREADY;
            }
            draft.name[guild] = tape.word;
            tape.next();
            return 0;
        }

        private int readPane() {
            int pane = draft.panes;
            if (pane >= MOST_PANES) {
                return ONE_TOO_MANY;
            }
            tape.next();
            int bad = takeNumber(0, 7);
            if (bad == 0) {
                draft.column[pane] = taken;
                bad = isRowOfPane(taken) ? TOLD_ALREADY : takeNumber(0, 3);
            }
            if (bad == 0) {
                draft.row[pane] = taken;
                bad = take(Tape.OF);
            }
            if (bad == 0) {
                bad = takeGiver(pane);
            }
            if (bad == 0) {
                bad = take(Tape.COLOUR);
            }
            if (bad == 0) {
                bad = takeNumber(1, 7);
            }
            if (bad == 0) {
                draft.colour[pane] = taken;
                bad = take(';');
            }
            if (bad == 0) {
                draft.panes++;
            }
            return bad;
        }

        private boolean isRowOfPane(int column) {
            return tape.kind == Tape.NUMBER && draft.hasPaneAt(column, tape.number);
        }

        private int takeGiver(int pane) {
            if (!tape.isName()) {
                return CANT_STAND;
            }
            int guild = draft.guildNamed(tape.word);
            if (guild == NONE) {
                return NO_GUILD;
            }
            draft.giver[pane] = guild;
            tape.next();
            return 0;
        }

        private int readCloud() {
            int bad = takeOnce();
            if (bad == 0) {
                bad = takeNumber(0, 8);
            }
            if (bad == 0) {
                draft.cloud = taken;
                bad = take(';');
            }
            return bad;
        }

        private int readLaw() {
            law = tape.kind;
            int bad = takeOnce();
            if (bad == 0) {
                draft.laws.open(law);
                bad = readE(0);
            }
            if (bad == 0) {
                draft.laws.close(law);
                bad = take(';');
            }
            return bad;
        }

        /** depth: within how many of not and ( ) this is. */
        private int readE(int depth) {
            int bad = readTest(depth);
            for (int n = 0; n < MOST_SIGNS && bad == 0 && (tape.kind == Tape.AND || tape.kind == Tape.OR); n++) {
                int sign = tape.kind;
                tape.next();
                bad = readTest(depth);
                draft.laws.add(-sign);
            }
            return bad;
        }

        private int readTest(int depth) {
            int bad = readSum(depth);
            if (bad == 0 && (tape.kind == '<' || tape.kind == '=')) {
                int sign = tape.kind;
                tape.next();
                bad = readSum(depth);
                draft.laws.add(-sign);
            }
            return bad;
        }

        private int readSum(int depth) {
            int bad = readProduct(depth);
            for (int n = 0; n < MOST_SIGNS && bad == 0 && (tape.kind == '+' || tape.kind == '-'); n++) {
                int sign = tape.kind;
                tape.next();
                bad = readProduct(depth);
                draft.laws.add(-sign);
            }
            return bad;
        }

        private int readProduct(int depth) {
            int bad = readPart(depth);
            for (int n = 0; n < MOST_SIGNS && bad == 0 && tape.kind == '*'; n++) {
                tape.next();
                bad = readPart(depth);
                draft.laws.add(-'*');
            }
            return bad;
        }

        private int readPart(int depth) {
            if (!startsPart()) {
                return CANT_STAND;
            }
            if (depth >= MOST_WITHIN) {
                return ONE_TOO_MANY;
            }
            int kind = tape.kind;
            int number = tape.number;
            tape.next();
            if (kind == '(') {
                int bad = readE(depth + 1);
                if (bad != 0 || tape.kind != ')') {
                    return bad != 0 ? bad : CANT_STAND;
                }
                // take would do the same, but a call deeper than rule 11 of the language lets one go.
                tape.next();
                return 0;
            }
            int bad = kind == Tape.NOT ? readPart(depth + 1) : 0;
            draft.laws.add(kind == Tape.NUMBER ? number : -kind);
            return bad;
        }

        private boolean startsPart() {
            return tape.kind == Tape.NUMBER || tape.kind == Tape.NOT || tape.kind == '('
                || tape.isFact() && isFactOf(law, tape.kind);
        }

        private static boolean isFactOf(int law, int fact) {
            if (fact == Tape.WEEK || fact == Tape.HOUR) {
                return true;
            }
            if (fact == Tape.COLUMN || fact == Tape.ROW) {
                return law == Tape.EAST || law == Tape.DEEP;
            }
            return law == Tape.RENT;
        }

        private int takeOnce() {
            int bit = 1 << (tape.kind - Tape.FLOOR);
            if ((told & bit) != 0) {
                return TOLD_ALREADY;
            }
            told |= bit;
            tape.next();
            return 0;
        }

        private int take(int kind) {
            if (tape.kind != kind) {
                return CANT_STAND;
            }
            tape.next();
            return 0;
        }

        private int takeNumber(int least, int most) {
            if (tape.kind != Tape.NUMBER) {
                return CANT_STAND;
            }
            if (tape.number < least || tape.number > most) {
                return NOT_AS_TOLD;
            }
            taken = tape.number;
            tape.next();
            return 0;
        }
    }

    /** What a text tells; it stays as it was told. */
    private static final class Chapel {
        int wide;
        int deep;
        int cloud;
        int guilds;
        int panes;
        final long[] name;
        final int[] likes;
        final int[] owes;
        final int[] column;
        final int[] row;
        final int[] giver;
        final int[] colour;
        final Laws laws;

        Chapel() {
            name = new long[MOST_GUILDS];
            likes = new int[MOST_GUILDS];
            owes = new int[MOST_GUILDS];
            column = new int[MOST_PANES];
            row = new int[MOST_PANES];
            giver = new int[MOST_PANES];
            colour = new int[MOST_PANES];
            laws = new Laws();
            begin();
        }

        void begin() {
            wide = 4;
            deep = 4;
            cloud = 0;
            guilds = 0;
            panes = 0;
            laws.begin();
        }

        int guildNamed(long word) {
            for (int g = 0; g < guilds && g < MOST_GUILDS; g++) {
                if (name[g] == word) {
                    return g;
                }
            }
            return NONE;
        }

        boolean hasPaneAt(int atColumn, int atRow) {
            for (int p = 0; p < panes && p < MOST_PANES; p++) {
                if (column[p] == atColumn && row[p] == atRow) {
                    return true;
                }
            }
            return false;
        }

        boolean hasPlace(int x, int y) {
            return x >= 0 && x < wide && y >= 0 && y < deep;
        }

        int colourOf(int paneBits) {
            int all = 0;
            for (int p = 0; p < MOST_PANES; p++) {
                if ((paneBits >> p & 1) == 1) {
                    all |= colour[p];
                }
            }
            return all;
        }
    }

    /** The four E, each a row of numbers and (below 0) kinds of tokens, operands ahead of what joins them. */
    private static final class Laws {
        // Five levels, each of which holds back four values at most, need less than this.
        private static final int STACK = 32;
        private static final int FACTS = 7;
        private static final int LAWS = 4;

        private final int[] code;
        private int size;
        private final int[] from;
        private final int[] to;
        private final int[] stack;
        private final int[] facts;

        Laws() {
            code = new int[MOST_SIGNS];
            size = 0;
            from = new int[LAWS];
            to = new int[LAWS];
            stack = new int[STACK];
            facts = new int[FACTS];
        }

        void begin() {
            size = 0;
            for (int i = 0; i < LAWS; i++) {
                from[i] = 0;
                to[i] = 0;
            }
        }

        void open(int law) {
            if (isLaw(law)) {
                from[law - Tape.EAST] = size;
            }
        }

        void close(int law) {
            if (isLaw(law)) {
                to[law - Tape.EAST] = size;
            }
        }

        void add(int part) {
            if (size < MOST_SIGNS) {
                code[size] = part;
                size++;
            }
        }

        void turnTo(int time) {
            facts[0] = time / HOURS;
            facts[1] = time % HOURS;
        }

        void lookAtPane(int column, int row) {
            facts[Tape.COLUMN - Tape.WEEK] = column;
            facts[Tape.ROW - Tape.WEEK] = row;
        }

        void lookAtSpot(int place, int mixed) {
            facts[Tape.X - Tape.WEEK] = place % SIDE;
            facts[Tape.Y - Tape.WEEK] = place / SIDE;
            facts[Tape.MIXED - Tape.WEEK] = mixed;
        }

        int valueOf(int law) {
            if (!isLaw(law)) {
                return 0;
            }
            int end = to[law - Tape.EAST];
            int start = from[law - Tape.EAST];
            if (start >= end) {
                return valueUntold(law);
            }
            int top = 0;
            for (int i = start; i < end && i < MOST_SIGNS; i++) {
                int part = code[i];
                if (part >= 0 || isFact(-part)) {
                    if (top < STACK) {
                        stack[top] = part >= 0 ? part : facts[-part - Tape.WEEK];
                        top++;
                    }
                } else if (part == -Tape.NOT) {
                    if (top >= 1) {
                        stack[top - 1] = stack[top - 1] == 0 ? 1 : 0;
                    }
                } else if (top >= 2) {
                    top--;
                    stack[top - 1] = joined(-part, stack[top - 1], stack[top]);
                }
            }
            return stack[0];
        }

        private int valueUntold(int law) {
            int hour = facts[Tape.HOUR - Tape.WEEK];
            switch (law) {
                case Tape.EAST:
                    return hour - 12;
                case Tape.DEEP:
                    return facts[Tape.ROW - Tape.WEEK];
                case Tape.DARK:
                    return hour < 6 || 18 < hour ? 1 : 0;
                default:
                    return 1;
            }
        }

        private static int joined(int sign, int a, int b) {
            switch (sign) {
                case '+':
                    return a + b;
                case '-':
                    return a - b;
                case '*':
                    return a * b;
                case '<':
                    return a < b ? 1 : 0;
                case '=':
                    return a == b ? 1 : 0;
                case Tape.AND:
                    return a != 0 && b != 0 ? 1 : 0;
                default:
                    return a != 0 || b != 0 ? 1 : 0;
            }
        }

        private static boolean isLaw(int kind) {
            return kind >= Tape.EAST && kind <= Tape.RENT;
        }

        private static boolean isFact(int kind) {
            return kind >= Tape.WEEK && kind <= Tape.MIXED;
        }
    }

    /** Where light would fall at each TIME if no pane were BROKEN: it is the same as long as the chapel is. */
    private static final class Light {
        private static final int PANES_A_LONG = 6;
        private static final int BITS_A_PANE = 8;
        // The highest bit tells the TIMES that have been worked out, as most are asked for again and again.
        private static final long KNOWN = 1L << 63;

        Chapel chapel;
        final int[] spots;
        private final long[] year;
        private int turned;

        Light() {
            chapel = new Chapel();
            spots = new int[MOST_PANES];
            year = new long[2 * TIMES];
            turned = NONE;
        }

        /** Takes the chapel told and hands back the one of till then. */
        Chapel enter(Chapel told) {
            Chapel left = chapel;
            chapel = told;
            turned = NONE;
            Arrays.fill(year, 0L);
            return left;
        }

        void turnTo(int time) {
            if (time == turned || time < 0 || time >= TIMES) {
                return;
            }
            turned = time;
            chapel.laws.turnTo(time);
            if ((year[2 * time] & KNOWN) == 0) {
                shine(time);
            }
            long low = year[2 * time];
            long high = year[2 * time + 1];
            for (int p = 0; p < PANES_A_LONG; p++) {
                spots[p] = (int) (low >>> BITS_A_PANE * p & 255) - 1;
                spots[p + PANES_A_LONG] = (int) (high >>> BITS_A_PANE * p & 255) - 1;
            }
        }

        private void shine(int time) {
            Laws laws = chapel.laws;
            long low = KNOWN;
            long high = 0;
            int giving = laws.valueOf(Tape.DARK) == 0 ? chapel.panes : 0;
            for (int p = 0; p < giving && p < MOST_PANES; p++) {
                laws.lookAtPane(chapel.column[p], chapel.row[p]);
                int x = chapel.column[p] + laws.valueOf(Tape.EAST);
                int y = laws.valueOf(Tape.DEEP);
                // 0 tells that no light falls, so a SPOT is told as one more than it is.
                long spot = chapel.hasPlace(x, y) ? placeOf(x, y) + 1 : 0;
                if (p < PANES_A_LONG) {
                    low |= spot << BITS_A_PANE * p;
                } else {
                    high |= spot << BITS_A_PANE * (p - PANES_A_LONG);
                }
            }
            year[2 * time] = low;
            year[2 * time + 1] = high;
        }

        int panesOn(int place, int among) {
            int bits = 0;
            for (int p = 0; p < MOST_PANES; p++) {
                if (spots[p] == place && (among >> p & 1) == 1) {
                    bits |= 1 << p;
                }
            }
            return bits;
        }

        int colourOn(int place, int among) {
            return chapel.colourOf(panesOn(place, among));
        }

        /** As bits, a bit a place. */
        long placesOf(int among) {
            long bits = 0;
            for (int p = 0; p < MOST_PANES; p++) {
                if (spots[p] != NONE && (among >> p & 1) == 1) {
                    bits |= 1L << spots[p];
                }
            }
            return bits;
        }
    }

    /** What changes in a chapel, and so what a MARK holds. */
    private static final class Hold {
        final int[] guildOf;
        int broken;
        int seen;
        final int[] seenPlace;
        final int[] seenColour;
        private int panes;

        Hold() {
            guildOf = new int[MOST_PANES];
            for (int p = 0; p < MOST_PANES; p++) {
                guildOf[p] = NONE;
            }
            broken = 0;
            seen = 0;
            seenPlace = new int[MOST_SEEN];
            seenColour = new int[MOST_SEEN];
            panes = 0;
        }

        void begin(Chapel chapel) {
            panes = chapel.panes;
            broken = 0;
            seen = 0;
            for (int p = 0; p < MOST_PANES; p++) {
                guildOf[p] = p < panes ? chapel.giver[p] : NONE;
            }
        }

        void copy(Hold other) {
            panes = other.panes;
            broken = other.broken;
            seen = other.seen;
            for (int p = 0; p < MOST_PANES; p++) {
                guildOf[p] = other.guildOf[p];
            }
            for (int i = 0; i < MOST_SEEN; i++) {
                seenPlace[i] = other.seenPlace[i];
                seenColour[i] = other.seenColour[i];
            }
        }

        boolean isBroken(int pane) {
            return (broken >> pane & 1) == 1;
        }

        /** The panes that are not BROKEN. */
        int lit() {
            return (1 << panes) - 1 & ~broken;
        }

        int panesOf(int guild) {
            int bits = 0;
            for (int p = 0; p < MOST_PANES; p++) {
                if (guildOf[p] == guild) {
                    bits |= 1 << p;
                }
            }
            return bits;
        }

        int ownersOf(int paneBits) {
            int bits = 0;
            for (int p = 0; p < panes && p < MOST_PANES; p++) {
                if ((paneBits >> p & 1) == 1) {
                    bits |= 1 << guildOf[p];
                }
            }
            return bits;
        }

        int keepSeen(int place, int colour) {
            if (seen >= MOST_SEEN) {
                return NONE;
            }
            seenPlace[seen] = place;
            seenColour[seen] = colour;
            seen++;
            return seen;
        }

        void swap(int a, int b) {
            int guild = guildOf[a];
            guildOf[a] = guildOf[b];
            guildOf[b] = guild;
        }

        /** Breaks a pane that is whole, mends one that is not. */
        void turn(int pane) {
            broken ^= 1 << pane;
        }
    }

    /** The last doings: two panes of an EXCHANGE, or one (and NONE) that was broken or mended. */
    private static final class History {
        private final int[] pane;
        private final int[] other;
        int size;
        private int next;

        History() {
            pane = new int[MOST_UNDONE];
            other = new int[MOST_UNDONE];
            size = 0;
            next = 0;
        }

        void forget() {
            size = 0;
            next = 0;
        }

        void note(int a, int b) {
            pane[next] = a;
            other[next] = b;
            next = (next + 1) % MOST_UNDONE;
            size = Math.min(size + 1, MOST_UNDONE);
        }

        boolean takeBack(Hold hold) {
            if (size == 0) {
                return false;
            }
            size--;
            next = (next + MOST_UNDONE - 1) % MOST_UNDONE;
            if (other[next] == NONE) {
                hold.turn(pane[next]);
            } else {
                hold.swap(pane[next], other[next]);
            }
            return true;
        }
    }

    /** What panes give in a year; a year is a number by which it is asked for. */
    private static final class Rents {
        // What panes give hangs on the chapel and on who gives light alone, so some years are kept.
        private static final int YEARS = 16;
        private static final int CLOUDED = YEARS;
        private static final int MOST_RENT = 999;

        private final int[] gives;
        private final int[] litIn;
        private int kept;
        private int oldest;
        final int[] round;

        Rents() {
            gives = new int[(YEARS + 1) * MOST_PANES];
            litIn = new int[YEARS];
            kept = 0;
            oldest = 0;
            round = new int[MOST_GUILDS];
        }

        void forget() {
            kept = 0;
            oldest = 0;
        }

        int given(int year, int pane) {
            return gives[year * MOST_PANES + pane];
        }

        int givenBy(int year, int paneBits) {
            int sum = 0;
            for (int p = 0; p < MOST_PANES; p++) {
                if ((paneBits >> p & 1) == 1) {
                    sum += given(year, p);
                }
            }
            return sum;
        }

        int worthTo(Chapel chapel, int year, int guild, int pane) {
            return given(year, pane) * (1 + Integer.bitCount(chapel.colour[pane] & chapel.likes[guild]));
        }

        int gainOf(Chapel chapel, Hold hold, int year, int a, int b) {
            int ofA = hold.guildOf[a];
            int ofB = hold.guildOf[b];
            int first = worthTo(chapel, year, ofA, b) - worthTo(chapel, year, ofA, a);
            int second = worthTo(chapel, year, ofB, a) - worthTo(chapel, year, ofB, b);
            return first > 0 && second > 0 ? first + second : 0;
        }

        int yearOf(Light light, int lit) {
            for (int i = 0; i < kept && i < YEARS; i++) {
                if (litIn[i] == lit) {
                    return i;
                }
            }
            int year = oldest;
            oldest = (oldest + 1) % YEARS;
            kept = Math.min(kept + 1, YEARS);
            litIn[year] = lit;
            measure(light, lit, 0, 0, year);
            return year;
        }

        int cloudedYear(Light light, int lit, int seed) {
            measure(light, lit, seed, light.chapel.cloud, CLOUDED);
            return CLOUDED;
        }

        private void measure(Light light, int lit, int seed, int cloud, int year) {
            for (int p = 0; p < MOST_PANES; p++) {
                gives[year * MOST_PANES + p] = 0;
            }
            long drawn = seed;
            for (int time = 0; time < TIMES; time++) {
                drawn = (drawn * 1103515245L + 12345L) % 2147483648L;
                if (drawn / 65536L % 8L >= cloud) {
                    light.turnTo(time);
                    shareOut(light, lit, year);
                }
            }
        }

        private void shareOut(Light light, int lit, int year) {
            int left = lit;
            for (int p = 0; p < MOST_PANES; p++) {
                if ((left >> p & 1) == 1 && light.spots[p] != NONE) {
                    int partners = light.panesOn(light.spots[p], lit) | 1 << p;
                    int part = partOf(light.chapel.laws, light.spots[p], Integer.bitCount(partners));
                    for (int q = p; q < MOST_PANES; q++) {
                        gives[year * MOST_PANES + q] += (partners >> q & 1) * part;
                    }
                    left &= ~partners;
                }
            }
        }

        private static int partOf(Laws laws, int place, int mixed) {
            laws.lookAtSpot(place, mixed);
            int rent = Math.min(Math.max(laws.valueOf(Tape.RENT), 0), MOST_RENT);
            return mixed > 0 ? rent / mixed : 0;
        }

        /** Tells in round[] when each GUILD falls, 0 if it stands. */
        void fall(Light light, Hold hold) {
            Arrays.fill(round, 0);
            int lit = hold.lit();
            for (int n = 1; n <= MOST_GUILDS; n++) {
                int year = yearOf(light, lit);
                int dimmed = 0;
                for (int g = 0; g < light.chapel.guilds && g < MOST_GUILDS; g++) {
                    // The panes of the fallen are lit no more, so none falls twice.
                    int panes = hold.panesOf(g) & lit;
                    if (panes != 0 && givenBy(year, panes) < light.chapel.owes[g]) {
                        round[g] = n;
                        dimmed |= panes;
                    }
                }
                lit &= ~dimmed;
            }
        }
    }

    /** The BEST EXCHANGES. */
    private static final class Trade {
        private final int[] gain;
        private final int[] most;
        final int[] other;
        int together;

        Trade() {
            gain = new int[MOST_PANES * MOST_PANES];
            // The most GAIN of each set of panes, as bits.
            most = new int[1 << MOST_PANES];
            other = new int[MOST_PANES];
            together = 0;
        }

        void settle(Chapel chapel, Hold hold, Rents rents, int year) {
            int panes = Math.min(chapel.panes, MOST_PANES);
            for (int a = 0; a < panes; a++) {
                for (int b = 0; b < panes; b++) {
                    boolean alike = hold.guildOf[a] == hold.guildOf[b];
                    gain[a * MOST_PANES + b] = alike ? 0 : rents.gainOf(chapel, hold, year, a, b);
                }
            }
            most[0] = 0;
            for (int last = 0; last < panes; last++) {
                for (int rest = 0; rest < 1 << last; rest++) {
                    most[rest | 1 << last] = mostWith(last, rest);
                }
            }
            together = most[(1 << panes) - 1];
            choose(panes);
        }

        /** The most GAIN of a pane and a set of panes ahead of it. */
        private int mostWith(int last, int rest) {
            int found = most[rest];
            for (int p = 0; p < last; p++) {
                int with = gain[last * MOST_PANES + p];
                if ((rest >> p & 1) == 1 && with > 0) {
                    found = Math.max(found, with + most[rest & ~(1 << p)]);
                }
            }
            return found;
        }

        private void choose(int panes) {
            int left = (1 << panes) - 1;
            for (int p = 0; p < panes; p++) {
                if ((left >> p & 1) == 1) {
                    int rest = left & ~(1 << p);
                    int partner = leastPartner(p, rest, most[left], panes);
                    other[p] = partner;
                    other[partner] = p;
                    left = rest & ~(1 << partner);
                }
            }
        }

        private int leastPartner(int pane, int rest, int due, int panes) {
            if (most[rest] == due) {
                return pane;
            }
            for (int p = pane + 1; p < panes; p++) {
                int with = gain[pane * MOST_PANES + p];
                if ((rest >> p & 1) == 1 && with > 0 && with + most[rest & ~(1 << p)] == due) {
                    return p;
                }
            }
            return pane;
        }
    }

    /** The WAY of a STALL. */
    private static final class Way {
        private static final int FAR = 1000000;

        private final long[] stands;
        private final int[] ahead;
        final int[] places;
        int steps;

        Way() {
            stands = new long[HOURS];
            // Of each hour and place the fewest steps from there to the last hour.
            ahead = new int[HOURS * PLACES];
            places = new int[HOURS];
            steps = 0;
        }

        void find(Light light, int paneBits, int first, int hours) {
            int count = Math.min(hours, HOURS);
            long floor = floorOf(light.chapel);
            for (int h = 0; h < count; h++) {
                light.turnTo(first + h);
                long owned = light.placesOf(paneBits);
                stands[h] = owned != 0 ? owned : floor;
            }
            for (int h = count - 1; h >= 0; h--) {
                lookAhead(h, count - 1, floor);
            }
            int at = NONE;
            for (int h = 0; h < count; h++) {
                at = nextFrom(at, h);
                places[h] = at;
            }
            steps = count > 0 ? ahead[places[0]] : 0;
        }

        private void lookAhead(int hour, int last, long floor) {
            for (int p = 0; p < PLACES; p++) {
                if ((stands[hour] >>> p & 1L) == 1L) {
                    int fewest = 0;
                    if (hour < last) {
                        // Where one may stand anywhere, to stay is as good as any step.
                        int next = stands[hour + 1] == floor ? p : nextFrom(p, hour + 1);
                        fewest = stepsOver(p, hour + 1, next);
                    }
                    ahead[hour * PLACES + p] = fewest;
                }
            }
        }

        private static long floorOf(Chapel chapel) {
            long bits = 0;
            for (int p = 0; p < PLACES; p++) {
                if (chapel.hasPlace(p % SIDE, p / SIDE)) {
                    bits |= 1L << p;
                }
            }
            return bits;
        }

        /** Where to be at an hour when one comes from a place (NONE: from nowhere). */
        private int nextFrom(int from, int hour) {
            int found = 0;
            int fewest = FAR;
            for (int p = 0; p < PLACES; p++) {
                if ((stands[hour] >>> p & 1L) == 1L && stepsOver(from, hour, p) < fewest) {
                    found = p;
                    fewest = stepsOver(from, hour, p);
                }
            }
            return found;
        }

        private int stepsOver(int from, int hour, int place) {
            int here = from == NONE ? 0 : stepsBetween(from, place);
            return here + ahead[hour * PLACES + place];
        }
    }

    /** Rows of places on which one took in the COLOURS told. */
    private static final class Walk {
        private final int[] before;
        private final int[] behind;
        private final int[] spare;

        Walk() {
            before = new int[PLACES];
            behind = new int[PLACES];
            spare = new int[PLACES];
        }

        int rowsOf(Light light, int lit, int first, int hours, int colours) {
            go(light, lit, first, colours, 0, hours - 1, before);
            int rows = 0;
            for (int p = 0; p < PLACES; p++) {
                rows += before[p];
            }
            return rows;
        }

        /** Finds the places of the i-th hour in all rows; the light is turned to that hour then. */
        void meet(Light light, int lit, int first, int hours, int colours, int i) {
            go(light, lit, first, colours, hours - 1, i, behind);
            go(light, lit, first, colours, 0, i, before);
        }

        boolean passes(int place) {
            return before[place] > 0 && behind[place] > 0;
        }

        /** Counts in how many ways one comes from hour to hour, forth or back, to each place at last. */
        private void go(Light light, int lit, int first, int colours, int from, int to, int[] ways) {
            int direction = from <= to ? 1 : -1;
            Arrays.fill(ways, 1);
            keepColoured(light, lit, first, colours, from, ways);
            for (int n = 1; n <= Math.abs(to - from); n++) {
                for (int p = 0; p < PLACES; p++) {
                    spare[p] = waysAround(ways, p);
                }
                System.arraycopy(spare, 0, ways, 0, PLACES);
                keepColoured(light, lit, first, colours, from + n * direction, ways);
            }
        }

        private static void keepColoured(Light light, int lit, int first, int colours, int hour, int[] ways) {
            light.turnTo(first + hour);
            int colour = colours >> 3 * hour & 7;
            for (int p = 0; p < PLACES; p++) {
                boolean onFloor = light.chapel.hasPlace(p % SIDE, p / SIDE);
                if (!onFloor || light.colourOn(p, lit) != colour) {
                    ways[p] = 0;
                }
            }
        }

        private static int waysAround(int[] ways, int place) {
            int sum = ways[place];
            sum += place % SIDE > 0 ? ways[place - 1] : 0;
            sum += place % SIDE < SIDE - 1 ? ways[place + 1] : 0;
            sum += place >= SIDE ? ways[place - SIDE] : 0;
            sum += place < PLACES - SIDE ? ways[place + SIDE] : 0;
            return sum;
        }
    }
}
