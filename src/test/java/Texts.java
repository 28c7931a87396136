import java.util.ArrayList;
import java.util.Collections;
import java.util.List;
import java.util.Random;
import java.util.regex.Matcher;
import java.util.regex.Pattern;

/** Draws texts of chapels, right ones and spoilt ones. */
final class Texts {
    private static final String[] NAMES = {"dyers", "bakers", "a", "week", "hour", "x", "mixed", "abcdefgh", "spot", "column"};
    private static final String[] PIECES = {"floor", "guild", "likes", "owes", "pane", "of", "colour", "east", "deep", "dark",
        "rent", "cloud", "not", "and", "or", "week", "hour", "column", "row", "x", "y", "mixed", "(", ")", "<", "=", "+", "-",
        "*", ";", "0", "1", "7", "8", "9", "9999", "12345", "abcdefghi", "dyers", "nobody", "A", "!", "1x", "\n", "not not not"};

    private final Random random;

    Texts(Random random) {
        this.random = random;
    }

    private String one(String... of) {
        return of[random.nextInt(of.length)];
    }

    private String e(String[] facts, int within) {
        StringBuilder text = new StringBuilder(test(facts, within));
        while (random.nextInt(4) == 0) {
            text.append(one(" and ", " or ")).append(test(facts, within));
        }
        return text.toString();
    }

    private String test(String[] facts, int within) {
        String left = sum(facts, within);
        return random.nextInt(4) == 0 ? left + one(" < ", " = ", "<") + sum(facts, within) : left;
    }

    private String sum(String[] facts, int within) {
        StringBuilder text = new StringBuilder(product(facts, within));
        while (random.nextInt(3) == 0) {
            text.append(one(" + ", " - ", "-", "+")).append(product(facts, within));
        }
        return text.toString();
    }

    private String product(String[] facts, int within) {
        StringBuilder text = new StringBuilder(part(facts, within));
        while (random.nextInt(5) == 0) {
            text.append(one(" * ", "*")).append(part(facts, within));
        }
        return text.toString();
    }

    private String part(String[] facts, int within) {
        int kind = random.nextInt(10);
        if (kind == 0 && within < 4) {
            return "not " + part(facts, within + 1);
        }
        if (kind < 3 && within < 4) {
            return "( " + e(facts, within + 1) + one(" )", ")");
        }
        return kind < 7 ? one(facts) : one("0", "1", "2", "3", "12", "007", "9999", "50");
    }

    private String east() {
        String[] facts = {"week", "hour", "column", "row"};
        return switch (random.nextInt(6)) {
            case 0 -> "hour - " + (8 + random.nextInt(8));
            case 1 -> "0 - column + " + random.nextInt(4);
            case 2 -> "( hour - 12 ) * ( 1 + row ) - week * 0";
            case 3 -> "1 - week + hour";
            case 4 -> "( week < 20 ) + ( hour < 12 ) * row - column";
            default -> e(facts, 0);
        };
    }

    private String deep() {
        String[] facts = {"week", "hour", "column", "row"};
        return switch (random.nextInt(5)) {
            case 0 -> "row";
            case 1 -> "row + hour - 12";
            case 2 -> "hour < 12";
            case 3 -> "( week = 3 ) * 2 + ( row < 2 )";
            default -> e(facts, 0);
        };
    }

    private String dark() {
        String[] facts = {"week", "hour"};
        return switch (random.nextInt(4)) {
            case 0 -> "0";
            case 1 -> "hour < 10 or 14 < hour";
            case 2 -> "week < 40 and not ( hour = 12 )";
            default -> e(facts, 0);
        };
    }

    private String rent() {
        String[] facts = {"week", "hour", "x", "y", "mixed"};
        return switch (random.nextInt(7)) {
            case 0 -> "2 + mixed * 3";
            case 4 -> "mixed * mixed * 9";
            case 5 -> "mixed * mixed * mixed";
            case 1 -> "x * 5 - y + week";
            case 2 -> "7 - 2 * mixed";
            case 3 -> "( x + 1 ) * ( hour + 1 ) * 30";
            default -> e(facts, 0);
        };
    }

    private List<String> lines() {
        List<String> lines = new ArrayList<>();
        List<String> names = new ArrayList<>(List.of(NAMES));
        Collections.shuffle(names, random);
        int guilds = random.nextInt(8) == 0 ? 0 : 1 + random.nextInt(6);
        for (int g = 0; g < guilds; g++) {
            int owes = random.nextInt(Integer.parseInt(one("1", "100", "600", "3000", "10000")));
            lines.add("guild " + names.get(g) + " likes " + random.nextInt(8) + " owes " + owes + " ;");
        }
        List<Integer> places = new ArrayList<>();
        for (int i = 0; i < 32; i++) {
            places.add(i);
        }
        Collections.shuffle(places, random);
        int panes = guilds == 0 ? 0 : random.nextInt(13);
        for (int p = 0; p < panes; p++) {
            int at = places.get(p);
            if (random.nextInt(3) > 0) {
                at = p % 3 + 8 * (p / 3);
            }
            if (lines.toString().contains("pane " + at % 8 + " " + at / 8 + " of")) {
                continue;
            }
            lines.add("pane " + at % 8 + " " + at / 8 + " of " + names.get(random.nextInt(guilds)) + " colour "
                + (1 + random.nextInt(7)) + one(" ;", ";"));
        }
        List<String> others = new ArrayList<>();
        others.add("floor " + (1 + random.nextInt(8)) + " " + (1 + random.nextInt(8)) + ";");
        others.add("east " + east() + " ;");
        others.add("deep " + deep() + " ;");
        others.add("dark " + dark() + " ;");
        others.add("rent " + rent() + " ;");
        others.add("cloud " + random.nextInt(9) + " ;");
        for (String other : others) {
            if (random.nextInt(3) > 0) {
                lines.add(random.nextInt(lines.size() + 1), other);
            }
        }
        return lines;
    }

    /** A text that is right as long as it fits on the tape. */
    String chapel() {
        return String.join(one(" ", "\n", "  ", ""), lines());
    }

    /** Panes that give nearly alike, so that many EXCHANGES are FAIR and many as good as others. */
    String market() {
        StringBuilder text = new StringBuilder("floor 8 4 ; east 0 ; deep row ; dark hour < 12 or 12 < hour ; ");
        text.append(one("", "rent x + 1 ; ", "rent x * y + 5 ; ", "rent 9 - ( x = 2 ) ; "));
        int guilds = 2 + random.nextInt(5);
        for (int g = 0; g < guilds; g++) {
            text.append("guild ").append(NAMES[g]).append(" likes ").append(one("6", "5", "3", "7", "1", "4")).append(" owes 0 ; ");
        }
        for (int p = 0; p < 12; p++) {
            text.append("pane ").append(p % 8).append(' ').append(p / 8).append(" of ").append(NAMES[random.nextInt(guilds)])
                .append(" colour ").append(one("1", "2", "4", "3")).append(" ; ");
        }
        return text.toString();
    }

    /** The same text, but that each GUILD owes about what it has, so that some fall by others. */
    static String tightened(String text, Random random) {
        PaneSpots spots = new PaneSpots();
        if (Probe.tell(spots, text) != 0) {
            return text;
        }
        Matcher owing = Pattern.compile("owes [0-9]+").matcher(text);
        StringBuilder tight = new StringBuilder();
        for (int g = 0; owing.find(); g++) {
            int owes = spots.rents(g) * (90 + random.nextInt(12)) / 100;
            owing.appendReplacement(tight, "owes " + Math.min(owes, 9999));
        }
        return owing.appendTail(tight).toString();
    }

    /** A text with something wrong in it, most times. */
    String spoilt() {
        List<String> lines = lines();
        if (random.nextInt(4) == 0) {
            lines.add(random.nextInt(lines.size() + 1), lines.isEmpty() ? "pane" : lines.get(random.nextInt(lines.size())));
        }
        List<String> tokens = new ArrayList<>(List.of(String.join(" ", lines).split(" ")));
        for (int n = random.nextInt(3); n >= 0; n--) {
            int at = random.nextInt(tokens.size());
            if (tokens.get(at).matches("[0-9]+") && random.nextBoolean()) {
                tokens.set(at, one("0", "3", "4", "7", "8", "9", "10"));
                continue;
            }
            switch (random.nextInt(4)) {
                case 0 -> tokens.remove(at);
                case 1 -> tokens.add(at, one(PIECES));
                case 2 -> tokens.set(at, one(PIECES));
                default -> tokens = new ArrayList<>(tokens.subList(0, at + 1));
            }
            if (tokens.isEmpty()) {
                tokens.add(one(PIECES));
            }
        }
        return String.join(one(" ", " ", "\n"), tokens);
    }
}
