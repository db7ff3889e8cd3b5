import java.util.ArrayList;
import java.util.List;

/** Nets that many tests ask about, each at some end of what a net can be. */
final class Nets {
    static final String PATH5 = "rooms 5;door 0 1;door 1 2;door 2 3;door 3 4";
    static final String STAR5 = "rooms 5;door 0 1;door 0 2;door 0 3;door 0 4";
    static final String RING4 = "rooms 4;door 0 1;door 1 2;door 2 3;door 3 0";
    static final String LONE9 = "rooms 9";
    static final String PATH9 = "rooms 9;door 0 1;door 1 2;door 2 3;door 3 4;door 4 5;door 5 6;door 6 7;door 7 8";
    static final String STAR9 = "rooms 9;door 0 1;door 0 2;door 0 3;door 0 4;door 0 5;door 0 6;door 0 7;door 0 8";
    /** One way after the other, none back. */
    static final String WAYS9 = "rooms 9;way 0 1;way 1 2;way 2 3;way 3 4;way 4 5;way 5 6;way 6 7;way 7 8";
    /** Ten ways, as many as chances take: five side by side from room 0, each with one behind it to room 6. */
    static final String FAN7 = "rooms 7;way 0 1;way 0 2;way 0 3;way 0 4;way 0 5;way 1 6;way 2 6;way 3 6;way 4 6;way 5 6";
    static final int[] FAR = {Integer.MIN_VALUE, Integer.MIN_VALUE + 1, -1000, 1000, 1 << 16, Integer.MAX_VALUE};

    private Nets() {
    }

    static WettedNet of(String... texts) {
        return Check.told(texts);
    }

    /** Every door there can be. */
    static WettedNet full(int rooms) {
        List<String> lines = new ArrayList<>();
        lines.add("rooms " + rooms);
        for (int a = 0; a < rooms; a++) {
            for (int b = a + 1; b < rooms; b++) {
                lines.add("door " + a + " " + b);
            }
        }
        List<String> texts = new ArrayList<>();
        for (int i = 0; i < lines.size(); i += 12) {
            texts.add(String.join(";", lines.subList(i, Math.min(lines.size(), i + 12))));
        }
        return Check.told(texts.toArray(new String[0]));
    }

    /** Tells one text more; how many lines it had. */
    static int tell(WettedNet x, String text) {
        Check.put(x, text);
        return x.net();
    }

    /** One line for each room. */
    static String forEach(String word, int rooms, int number) {
        List<String> lines = new ArrayList<>();
        for (int r = 0; r < rooms; r++) {
            lines.add(word + " " + r + " " + number);
        }
        return String.join(";", lines);
    }
}
