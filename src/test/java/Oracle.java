import java.util.ArrayList;
import java.util.Arrays;
import java.util.HashMap;
import java.util.LinkedHashMap;
import java.util.List;
import java.util.Map;
import java.util.NoSuchElementException;
import java.util.Set;
import java.util.regex.Matcher;
import java.util.regex.Pattern;

/** The document read a second time, as slowly and plainly as can be, to set PaneSpots against. */
final class Oracle {
    static final int NONE = -1;
    private static final Set<String> RESERVED = Set.of("floor", "guild", "likes", "owes", "pane", "of", "colour",
        "east", "deep", "dark", "rent", "cloud", "not", "and", "or");
    private static final Pattern TOKEN = Pattern.compile("[a-z]+|[0-9]+|[^ \\n]");

    private interface E {
        int of(Map<String, Integer> facts);
    }

    private record Guild(String name, int likes, int owes) { }

    private record Pane(int column, int row, int giver, int colour) { }

    private record Token(String text, int place) { }

    private record Place(int x, int y) {
        int number() {
            return y * 8 + x;
        }

        int stepsTo(Place o) {
            return Math.abs(x - o.x) + Math.abs(y - o.y);
        }
    }

    private record Seen(Place place, int colour) { }

    private record State(List<Integer> owner, List<Boolean> broken, List<Seen> seen) {
        State copied() {
            return new State(new ArrayList<>(owner), new ArrayList<>(broken), new ArrayList<>(seen));
        }
    }

    private static final class Fault extends RuntimeException {
        private static final long serialVersionUID = 1;
        final int code;

        Fault(int kind, Token token) {
            code = kind + 16 * token.place();
        }
    }

    private final StringBuilder tape = new StringBuilder();
    private int wide = 4;
    private int deep = 4;
    private int cloud;
    private List<Guild> guilds = new ArrayList<>();
    private List<Pane> panes = new ArrayList<>();
    private Map<String, E> laws = new HashMap<>();
    private State state = new State(new ArrayList<>(), new ArrayList<>(), new ArrayList<>());
    private final List<int[]> done = new ArrayList<>();
    private final Map<Integer, State> marks = new HashMap<>();

    int feed(long... rows) {
        for (long row : rows) {
            for (int i = 7; i >= 0; i--) {
                int sign = (int) (row >> 8 * i & 0xff);
                if ((sign == 10 || 32 <= sign && sign <= 126) && tape.length() < 1000) {
                    tape.append((char) sign);
                }
            }
        }
        return tape.length();
    }

    // ---- the language

    private final class Parser {
        final List<Token> tokens = new ArrayList<>();
        int at;
        int newWide = 4;
        int newDeep = 4;
        int newCloud;
        final List<Guild> newGuilds = new ArrayList<>();
        final List<Pane> newPanes = new ArrayList<>();
        final Map<String, E> newLaws = new HashMap<>();
        final List<String> told = new ArrayList<>();

        Parser(String text) {
            Matcher m = TOKEN.matcher(text);
            while (m.find()) {
                tokens.add(new Token(m.group(), m.start()));
            }
            tokens.add(new Token("", text.length()));
        }

        Token look() {
            return tokens.get(at);
        }

        boolean isNone(Token t) {
            return !t.text().matches("[a-z]{1,8}|[0-9]{1,4}|[()<=+*;-]");
        }

        Token next() {
            Token t = look();
            if (isNone(t)) {
                throw new Fault(1, t);
            }
            at++;
            return t;
        }

        void want(String text) {
            Token t = next();
            if (!t.text().equals(text)) {
                throw new Fault(1, t);
            }
        }

        int number(int least, int most) {
            Token t = next();
            if (!t.text().matches("[0-9]+")) {
                throw new Fault(1, t);
            }
            int n = Integer.parseInt(t.text());
            if (n < least || n > most) {
                throw new Fault(4, t);
            }
            return n;
        }

        Token name() {
            Token t = next();
            if (!t.text().matches("[a-z]+") || RESERVED.contains(t.text())) {
                throw new Fault(1, t);
            }
            return t;
        }

        int numbered(Token t) {
            for (int i = 0; i < newGuilds.size(); i++) {
                if (newGuilds.get(i).name().equals(t.text())) {
                    return i;
                }
            }
            return NONE;
        }

        void all() {
            while (!look().text().isEmpty()) {
                line(next());
            }
        }

        void line(Token t) {
            boolean once = Set.of("floor", "east", "deep", "dark", "rent", "cloud").contains(t.text());
            if (once && told.contains(t.text())) {
                throw new Fault(3, t);
            }
            told.add(t.text());
            if (t.text().equals("floor")) {
                newWide = number(1, 8);
                newDeep = number(1, 8);
            } else if (t.text().equals("cloud")) {
                newCloud = number(0, 8);
            } else if (once) {
                newLaws.put(t.text(), e(t.text(), 0));
            } else if (t.text().equals("guild")) {
                guildLine(t);
            } else if (t.text().equals("pane")) {
                paneLine(t);
            } else {
                throw new Fault(1, t);
            }
            want(";");
        }

        void guildLine(Token t) {
            if (newGuilds.size() == 6) {
                throw new Fault(5, t);
            }
            Token name = name();
            if (numbered(name) != NONE) {
                throw new Fault(3, name);
            }
            want("likes");
            int likes = number(0, 7);
            want("owes");
            newGuilds.add(new Guild(name.text(), likes, number(0, 9999)));
        }

        void paneLine(Token t) {
            if (newPanes.size() == 12) {
                throw new Fault(5, t);
            }
            int column = number(0, 7);
            Token at = look();
            int row = number(0, 3);
            for (Pane p : newPanes) {
                if (p.column() == column && p.row() == row) {
                    throw new Fault(3, at);
                }
            }
            want("of");
            Token giver = name();
            if (numbered(giver) == NONE) {
                throw new Fault(2, giver);
            }
            want("colour");
            newPanes.add(new Pane(column, row, numbered(giver), number(1, 7)));
        }

        E e(String law, int within) {
            E left = test(law, within);
            while (look().text().equals("and") || look().text().equals("or")) {
                boolean and = next().text().equals("and");
                E a = left;
                E b = test(law, within);
                left = f -> {
                    boolean x = a.of(f) != 0;
                    boolean y = b.of(f) != 0;
                    return (and ? x && y : x || y) ? 1 : 0;
                };
            }
            return left;
        }

        E test(String law, int within) {
            E a = sum(law, within);
            if (look().text().equals("<")) {
                next();
                E b = sum(law, within);
                return f -> a.of(f) < b.of(f) ? 1 : 0;
            }
            if (look().text().equals("=")) {
                next();
                E b = sum(law, within);
                return f -> a.of(f) == b.of(f) ? 1 : 0;
            }
            return a;
        }

        E sum(String law, int within) {
            E left = product(law, within);
            while (look().text().equals("+") || look().text().equals("-")) {
                int sign = next().text().equals("+") ? 1 : -1;
                E a = left;
                E b = product(law, within);
                left = f -> a.of(f) + sign * b.of(f);
            }
            return left;
        }

        E product(String law, int within) {
            E left = part(law, within);
            while (look().text().equals("*")) {
                next();
                E a = left;
                E b = part(law, within);
                left = f -> a.of(f) * b.of(f);
            }
            return left;
        }

        E part(String law, int within) {
            Token t = next();
            String s = t.text();
            Set<String> facts = switch (law) {
                case "east", "deep" -> Set.of("week", "hour", "column", "row");
                case "rent" -> Set.of("week", "hour", "x", "y", "mixed");
                default -> Set.of("week", "hour");
            };
            boolean number = s.matches("[0-9]+");
            if (!number && !facts.contains(s) && !s.equals("not") && !s.equals("(")) {
                throw new Fault(1, t);
            }
            if (within == 5) {
                throw new Fault(5, t);
            }
            if (number) {
                int n = Integer.parseInt(s);
                return f -> n;
            }
            if (s.equals("not")) {
                E inner = part(law, within + 1);
                return f -> inner.of(f) == 0 ? 1 : 0;
            }
            if (s.equals("(")) {
                E inner = e(law, within + 1);
                want(")");
                return inner;
            }
            return f -> f.get(s);
        }
    }

    int chapel() {
        Parser parser = new Parser(tape.toString());
        tape.setLength(0);
        try {
            parser.all();
        } catch (Fault fault) {
            return fault.code;
        }
        wide = parser.newWide;
        deep = parser.newDeep;
        cloud = parser.newCloud;
        guilds = parser.newGuilds;
        panes = parser.newPanes;
        laws = parser.newLaws;
        state = new State(new ArrayList<>(), new ArrayList<>(), new ArrayList<>());
        for (Pane p : panes) {
            state.owner().add(p.giver());
            state.broken().add(false);
        }
        done.clear();
        marks.clear();
        return 0;
    }

    // ---- light

    private int law(String name, Map<String, Integer> facts) {
        E told = laws.get(name);
        if (told != null) {
            return told.of(facts);
        }
        int hour = facts.get("hour");
        return switch (name) {
            case "east" -> hour - 12;
            case "deep" -> facts.get("row");
            case "dark" -> hour < 6 || 18 < hour ? 1 : 0;
            default -> 1;
        };
    }

    private boolean onFloor(long x, long y) {
        return 0 <= x && x < wide && 0 <= y && y < deep;
    }

    private boolean isTime(int week, int hour) {
        return 0 <= week && week < 52 && 0 <= hour && hour < 24;
    }

    private boolean isPane(int pane) {
        return 0 <= pane && pane < panes.size();
    }

    private boolean isGuild(int guild) {
        return 0 <= guild && guild < guilds.size();
    }

    private Place spotOf(int pane, int week, int hour, Set<Integer> without) {
        if (state.broken().get(pane) || without.contains(state.owner().get(pane))) {
            return null;
        }
        Map<String, Integer> facts = new HashMap<>();
        facts.put("week", week);
        facts.put("hour", hour);
        if (law("dark", facts) != 0) {
            return null;
        }
        facts.put("column", panes.get(pane).column());
        facts.put("row", panes.get(pane).row());
        int x = panes.get(pane).column() + law("east", facts);
        int y = law("deep", facts);
        return onFloor(x, y) ? new Place(x, y) : null;
    }

    private Map<Place, List<Integer>> lightAt(int week, int hour, Set<Integer> without) {
        Map<Place, List<Integer>> light = new LinkedHashMap<>();
        for (int p = 0; p < panes.size(); p++) {
            Place spot = spotOf(p, week, hour, without);
            if (spot != null) {
                light.computeIfAbsent(spot, k -> new ArrayList<>()).add(p);
            }
        }
        return light;
    }

    private int ownersOf(List<Integer> some) {
        int bits = 0;
        for (int p : some) {
            bits |= 1 << state.owner().get(p);
        }
        return bits;
    }

    private int colourOf(List<Integer> some) {
        int bits = 0;
        for (int p : some) {
            bits |= panes.get(p).colour();
        }
        return bits;
    }

    int guild(int guild, int what) {
        if (!isGuild(guild)) {
            return NONE;
        }
        int bits = 0;
        for (int p = 0; p < panes.size(); p++) {
            bits += state.owner().get(p) == guild ? 1 << p : 0;
        }
        return switch (what) {
            case 0 -> guilds.get(guild).likes();
            case 1 -> guilds.get(guild).owes();
            case 2 -> bits;
            default -> NONE;
        };
    }

    int pane(int pane, int what) {
        if (!isPane(pane)) {
            return NONE;
        }
        return switch (what) {
            case 0 -> panes.get(pane).column();
            case 1 -> panes.get(pane).row();
            case 2 -> state.owner().get(pane);
            case 3 -> panes.get(pane).colour();
            case 4 -> state.broken().get(pane) ? 1 : 0;
            default -> NONE;
        };
    }

    int spot(int pane, int week, int hour) {
        if (!isPane(pane) || !isTime(week, hour)) {
            return NONE;
        }
        Place spot = spotOf(pane, week, hour, Set.of());
        return spot == null ? NONE : spot.number();
    }

    int place(int x, int y, int week, int hour, int what) {
        if (!onFloor(x, y) || !isTime(week, hour)) {
            return NONE;
        }
        List<Integer> here = lightAt(week, hour, Set.of()).getOrDefault(new Place(x, y), List.of());
        return switch (what) {
            case 0 -> ownersOf(here);
            case 1 -> colourOf(here);
            case 2 -> here.size();
            default -> NONE;
        };
    }

    // ---- rents

    /** The yields of all panes; seed NONE: no cloud. */
    private int[] year(Set<Integer> without, int seed) {
        int[] sums = new int[panes.size()];
        long g = seed;
        for (int week = 0; week < 52; week++) {
            for (int hour = 0; hour < 24; hour++) {
                if (seed != NONE) {
                    g = Math.floorMod(g * 1103515245L + 12345L, 2147483648L);
                    if (g / 65536 % 8 < cloud) {
                        continue;
                    }
                }
                for (Map.Entry<Place, List<Integer>> spot : lightAt(week, hour, without).entrySet()) {
                    Map<String, Integer> facts = new HashMap<>();
                    facts.put("week", week);
                    facts.put("hour", hour);
                    facts.put("x", spot.getKey().x());
                    facts.put("y", spot.getKey().y());
                    facts.put("mixed", spot.getValue().size());
                    int rent = law("rent", facts);
                    rent = rent < 0 ? 0 : rent > 999 ? 999 : rent;
                    for (int p : spot.getValue()) {
                        sums[p] += rent / spot.getValue().size();
                    }
                }
            }
        }
        return sums;
    }

    private int rentsOf(int guild, int[] sums) {
        int sum = 0;
        for (int p = 0; p < panes.size(); p++) {
            sum += state.owner().get(p) == guild ? sums[p] : 0;
        }
        return sum;
    }

    int yields(int pane) {
        return isPane(pane) ? year(Set.of(), NONE)[pane] : NONE;
    }

    int rents(int guild) {
        return isGuild(guild) ? rentsOf(guild, year(Set.of(), NONE)) : NONE;
    }

    private int worthTo(int guild, int pane, int[] sums) {
        int liked = 0;
        for (int bit = 1; bit <= 4; bit *= 2) {
            if ((guilds.get(guild).likes() & bit) != 0 && (panes.get(pane).colour() & bit) != 0) {
                liked++;
            }
        }
        return sums[pane] * (1 + liked);
    }

    int worth(int guild, int pane) {
        return isGuild(guild) && isPane(pane) ? worthTo(guild, pane, year(Set.of(), NONE)) : NONE;
    }

    private int gainOf(int a, int b, int[] sums) {
        int ga = state.owner().get(a);
        int gb = state.owner().get(b);
        if (ga == gb) {
            return NONE;
        }
        int first = worthTo(ga, b, sums) - worthTo(ga, a, sums);
        int second = worthTo(gb, a, sums) - worthTo(gb, b, sums);
        return first > 0 && second > 0 ? first + second : 0;
    }

    int gain(int a, int b) {
        return isPane(a) && isPane(b) ? gainOf(a, b, year(Set.of(), NONE)) : NONE;
    }

    private int[] bestRow;
    private int bestGain;

    private void tryRows(int[] row, int pane, int gain, int[] sums) {
        if (pane == row.length) {
            if (bestRow == null || gain > bestGain || gain == bestGain && Arrays.compare(row, bestRow) < 0) {
                bestRow = row.clone();
                bestGain = gain;
            }
            return;
        }
        if (row[pane] != NONE) {
            tryRows(row, pane + 1, gain, sums);
            return;
        }
        for (int other = pane; other < row.length; other++) {
            int with = other == pane ? 0 : gainOf(pane, other, sums);
            if (row[other] == NONE && (other == pane || with > 0)) {
                row[pane] = other;
                row[other] = pane;
                tryRows(row, pane + 1, gain + with, sums);
                row[other] = NONE;
                row[pane] = NONE;
            }
        }
    }

    int best(int what) {
        if (what != NONE && !isPane(what)) {
            return NONE;
        }
        int[] row = new int[panes.size()];
        Arrays.fill(row, NONE);
        bestRow = null;
        bestGain = 0;
        tryRows(row, 0, 0, year(Set.of(), NONE));
        return what == NONE ? bestGain : bestRow[what];
    }

    // ---- doings

    private void swap(int a, int b) {
        int owner = state.owner().get(a);
        state.owner().set(a, state.owner().get(b));
        state.owner().set(b, owner);
    }

    private void note(int... what) {
        done.add(what);
        if (done.size() > 20) {
            done.remove(0);
        }
    }

    boolean exchange(int a, int b) {
        if (!isPane(a) || !isPane(b) || state.owner().get(a).equals(state.owner().get(b))) {
            return false;
        }
        swap(a, b);
        note(a, b);
        return true;
    }

    boolean breaks(int pane, boolean mend) {
        if (!isPane(pane) || state.broken().get(pane) == !mend) {
            return false;
        }
        state.broken().set(pane, !mend);
        note(pane);
        return true;
    }

    boolean undo() {
        if (done.isEmpty()) {
            return false;
        }
        int[] last = done.remove(done.size() - 1);
        if (last.length == 2) {
            swap(last[0], last[1]);
        } else {
            state.broken().set(last[0], !state.broken().get(last[0]));
        }
        return true;
    }

    private Map<Integer, Integer> rounds() {
        Map<Integer, Integer> fallen = new HashMap<>();
        for (int round = 1; ; round++) {
            int[] sums = year(fallen.keySet(), NONE);
            List<Integer> now = new ArrayList<>();
            for (int g = 0; g < guilds.size(); g++) {
                boolean whole = false;
                for (int p = 0; p < panes.size(); p++) {
                    whole |= state.owner().get(p) == g && !state.broken().get(p);
                }
                if (!fallen.containsKey(g) && whole && rentsOf(g, sums) < guilds.get(g).owes()) {
                    now.add(g);
                }
            }
            if (now.isEmpty()) {
                return fallen;
            }
            for (int g : now) {
                fallen.put(g, round);
            }
        }
    }

    int fallen() {
        int bits = 0;
        for (int g : rounds().keySet()) {
            bits |= 1 << g;
        }
        return bits;
    }

    int falls(int guild) {
        return isGuild(guild) ? rounds().getOrDefault(guild, 0) : NONE;
    }

    // ---- stalls

    private List<Place> floor() {
        List<Place> all = new ArrayList<>();
        for (int y = 0; y < deep; y++) {
            for (int x = 0; x < wide; x++) {
                all.add(new Place(x, y));
            }
        }
        return all;
    }

    private record Row(int steps, List<Place> places) {
        boolean isBetterThan(Row o) {
            if (o == null || steps != o.steps) {
                return o == null || steps < o.steps;
            }
            for (int i = 0; i < places.size(); i++) {
                if (places.get(i).number() != o.places.get(i).number()) {
                    return places.get(i).number() < o.places.get(i).number();
                }
            }
            return false;
        }
    }

    int stall(int guild, int week, int hour, int last, int what) {
        if (!isGuild(guild) || !isTime(week, hour) || !isTime(week, last) || last < hour || what < NONE
            || what > last - hour) {
            return NONE;
        }
        List<Row> rows = List.of(new Row(0, List.of()));
        for (int h = hour; h <= last; h++) {
            Map<Place, List<Integer>> light = lightAt(week, h, Set.of());
            List<Place> may = new ArrayList<>();
            for (Place p : floor()) {
                if ((ownersOf(light.getOrDefault(p, List.of())) >> guild & 1) == 1) {
                    may.add(p);
                }
            }
            List<Row> longer = new ArrayList<>();
            for (Place p : may.isEmpty() ? floor() : may) {
                Row found = null;
                for (Row r : rows) {
                    List<Place> places = new ArrayList<>(r.places());
                    int here = places.isEmpty() ? 0 : places.get(places.size() - 1).stepsTo(p);
                    places.add(p);
                    Row row = new Row(r.steps() + here, places);
                    if (row.isBetterThan(found)) {
                        found = row;
                    }
                }
                longer.add(found);
            }
            rows = longer;
        }
        Row best = null;
        for (Row r : rows) {
            if (r.isBetterThan(best)) {
                best = r;
            }
        }
        return what == NONE ? best.steps() : best.places().get(what).number();
    }

    // ---- what was seen

    int see(int x, int y, int colour) {
        if (!onFloor(x, y) || colour < 0 || colour > 7 || state.seen().size() == 8) {
            return NONE;
        }
        state.seen().add(new Seen(new Place(x, y), colour));
        return state.seen().size();
    }

    int candles(int week, int hour) {
        if (!isTime(week, hour)) {
            return NONE;
        }
        Map<Place, List<Integer>> light = lightAt(week, hour, Set.of());
        int needed = 0;
        for (Seen s : state.seen()) {
            needed += colourOf(light.getOrDefault(s.place(), List.of())) == s.colour() ? 0 : 1;
        }
        return needed;
    }

    int when(int what) {
        int[] needed = new int[1248];
        int fewest = 9;
        for (int t = 0; t < 1248; t++) {
            needed[t] = candles(t / 24, t % 24);
            fewest = Math.min(fewest, needed[t]);
        }
        int first = NONE;
        int times = 0;
        for (int t = 0; t < 1248; t++) {
            if (needed[t] == fewest) {
                first = first == NONE ? t : first;
                times++;
            }
        }
        return what == 0 ? first : what == 1 ? fewest : what == 2 ? times : NONE;
    }

    boolean clear() {
        state.seen().clear();
        return true;
    }

    // ---- stains

    private List<List<Place>> rowsOf(int week, int hour, int hours, int colours) {
        List<List<Place>> rows = new ArrayList<>();
        rows.add(List.of());
        for (int i = 0; i < hours; i++) {
            Map<Place, List<Integer>> light = lightAt(week, hour + i, Set.of());
            int colour = colours % 8;
            colours /= 8;
            List<List<Place>> longer = new ArrayList<>();
            for (List<Place> row : rows) {
                for (Place p : floor()) {
                    boolean near = row.isEmpty() || row.get(row.size() - 1).stepsTo(p) <= 1;
                    if (near && colourOf(light.getOrDefault(p, List.of())) == colour) {
                        List<Place> more = new ArrayList<>(row);
                        more.add(p);
                        longer.add(more);
                    }
                }
            }
            rows = longer;
        }
        return rows;
    }

    private boolean isStained(int week, int hour, int hours, int colours) {
        return isTime(week, hour) && hours >= 1 && hours <= 6 && hour + hours - 1 <= 23 && colours >= 0
            && colours < Math.pow(8, hours);
    }

    int stains(int week, int hour, int hours, int colours) {
        return isStained(week, hour, hours, colours) ? rowsOf(week, hour, hours, colours).size() : NONE;
    }

    int stood(int week, int hour, int hours, int colours, int i, boolean some) {
        if (!isStained(week, hour, hours, colours) || i < 0 || i >= hours) {
            return NONE;
        }
        List<List<Place>> rows = rowsOf(week, hour, hours, colours);
        if (rows.isEmpty()) {
            return NONE;
        }
        Map<Place, List<Integer>> light = lightAt(week, hour + i, Set.of());
        int any = 0;
        int all = 63;
        for (List<Place> row : rows) {
            int owners = ownersOf(light.getOrDefault(row.get(i), List.of()));
            any |= owners;
            all &= owners;
        }
        return some ? any : all;
    }

    // ---- the rest

    int clouded(int seed, int guild) {
        if (seed < 0 || seed > 9999 || guild != NONE && !isGuild(guild)) {
            throw new NoSuchElementException();
        }
        int[] sums = year(Set.of(), seed);
        if (guild != NONE) {
            return rentsOf(guild, sums);
        }
        int poor = 0;
        for (int g = 0; g < guilds.size(); g++) {
            poor += rentsOf(g, sums) < guilds.get(g).owes() ? 1 : 0;
        }
        return poor;
    }

    boolean mark(int mark, boolean back) {
        if (mark < 0 || mark > 3 || back && !marks.containsKey(mark)) {
            return false;
        }
        if (back) {
            state = marks.get(mark).copied();
            done.clear();
        } else {
            marks.put(mark, state.copied());
        }
        return true;
    }

    int count(int what) {
        int broken = 0;
        for (boolean b : state.broken()) {
            broken += b ? 1 : 0;
        }
        return switch (what) {
            case 0 -> wide;
            case 1 -> deep;
            case 2 -> guilds.size();
            case 3 -> panes.size();
            case 4 -> broken;
            case 5 -> done.size();
            case 6 -> state.seen().size();
            case 7 -> cloud;
            case 8 -> tape.length();
            default -> NONE;
        };
    }
}
