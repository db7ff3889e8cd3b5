import java.nio.charset.StandardCharsets;
import java.util.Random;

/** Long runs of calls, drawn with fixed seeds, on the class and on the literal reading of the document beside it. */
public final class NaiveAgreesTest {
    private static final int OBJECTS = 250;
    private static final int BURNT = 120;
    private static final int CALLS = 512;
    /** In each the search for the fires meets two states that a slip in how it numbers them would take for one. */
    private static final String[][] CLOSE = {
        {"rooms 9;hands 1;folk 1 81;folk 3 98;folk 4 23;door 2 0;door 6 2;door 4 8;door 2 3;door 7 6;door 4 3;door 1 4",
            "door 2 1;door 4 6"},
        {"rooms 9;hands 1;folk 0 60;folk 1 55;folk 2 57;folk 3 20;folk 4 0;folk 5 0;folk 6 87;folk 7 36;way 0 7;way 7 8",
            "way 7 6;door 2 0;door 4 6;way 4 1;way 1 7;way 5 3;way 0 4;door 4 1;way 7 3;way 1 2;way 8 1", "way 4 5"},
        {"rooms 8;hands 1;folk 0 33;folk 1 98;folk 2 80;folk 3 17;folk 5 28;door 4 3;door 4 6;door 7 4;door 2 6;door 0 3",
            "door 6 0"},
        {"rooms 9;hands 1;folk 0 48;folk 1 56;folk 2 98;folk 3 48;folk 4 46;folk 6 76;door 3 4;door 8 2;door 5 3;door 6 3",
            "door 8 1;door 5 1;door 0 1;door 7 8"}};
    private static final int[] CLOSE_FIRES = {320, 64, 4, 32};
    private static final String[] WORDS = {"rooms", "door", "way", "shut", "folk", "thick", "hands", "chance"};

    private final Random random;
    private final WettedNet net = new WettedNet();
    private final Naive naive = new Naive();
    private final int seed;
    private int left = CALLS;

    private NaiveAgreesTest(int seed) {
        this.seed = seed;
        this.random = new Random(seed);
    }

    public static void main(String[] args) {
        Check all = new Check();
        for (int seed = 0; seed < OBJECTS; seed++) {
            all.due("seed " + seed, 0, new NaiveAgreesTest(seed).run());
        }
        for (int seed = 0; seed < BURNT; seed++) {
            all.due("fires of seed " + seed, 0, new NaiveAgreesTest(seed).burn());
        }
        for (int i = 0; i < CLOSE.length; i++) {
            all.due("fires of close net " + i, 0, new NaiveAgreesTest(i).burnFrom(CLOSE[i], CLOSE_FIRES[i]));
        }
        all.end();
    }

    private int wrong = 0;

    private void same(String call, long want, long got) {
        left--;
        if (want != got && wrong++ < 5) {
            System.out.println("seed " + seed + ", call " + (CALLS - left) + ": " + call + " answered " + got + ", due is " + want);
        }
    }

    private int run() {
        while (left > 60) {
            tellNet();
            int questions = 10 + random.nextInt(30);
            for (int i = 0; i < questions && left > 30; i++) {
                ask(random.nextInt(20));
            }
            tellFaulty();
        }
        return wrong;
    }

    /** One net and as many fires in it as the calls last for: searches that mix up two of their states show here. */
    private int burn() {
        put("rooms " + (6 + random.nextInt(4)) + ";hands " + (1 + random.nextInt(2)));
        same("net", naive.net(), net.net());
        int rooms = naive.count(0);
        StringBuilder text = new StringBuilder();
        for (int r = 0; r < rooms; r++) {
            text.append(r == 0 ? "" : ";").append("folk ").append(r).append(' ').append(1 << r % 6);
        }
        put(text.toString());
        same("net", naive.net(), net.net());
        for (int i = 0; i < 12; i++) {
            int a = random.nextInt(rooms);
            int b = (a + 1 + random.nextInt(rooms - 1)) % rooms;
            put((random.nextInt(4) == 0 ? "way " : "door ") + a + " " + b);
            same("net", naive.net(), net.net());
        }
        return burnAll(random.nextInt(1 << rooms), rooms);
    }

    private int burnFrom(String[] texts, int fire) {
        for (String text : texts) {
            put(text);
            same("net of " + text, naive.net(), net.net());
        }
        return burnAll(fire, naive.count(0));
    }

    private int burnAll(int first, int rooms) {
        for (int i = 0; left > 2 && i < 1 << rooms; i++) {
            int fire = first + i & (1 << rooms) - 1;
            for (int what = 0; what <= 2; what++) {
                same("least " + fire + " " + what, naive.least(fire, what), net.least(fire, what));
            }
        }
        return wrong;
    }

    // ---- texts

    private void put(String text) {
        byte[] bytes = text.getBytes(StandardCharsets.ISO_8859_1);
        for (int i = 0; i < bytes.length; i += 8) {
            int n = Math.min(8, bytes.length - i);
            long packed = Check.pack(bytes, i, n);
            same("write", naive.write(packed, n), net.write(packed, n));
        }
    }

    private void tellNet() {
        int rooms = random.nextInt(4) == 0 ? 9 : 1 + random.nextInt(9);
        boolean evenly = random.nextBoolean();
        boolean few = random.nextInt(3) == 0;
        StringBuilder text = new StringBuilder("rooms ").append(rooms);
        int texts = few ? 1 : 1 + random.nextInt(2);
        for (int t = 0; t < texts; t++) {
            for (int i = 0; i < 11; i++) {
                String line = line(evenly, few, rooms);
                if (text.length() + line.length() < 200) {
                    text.append(text.length() == 0 ? "" : ";").append(line);
                }
            }
            put(text.toString());
            same("fault of " + text, naive.fault(), net.fault());
            same("net of " + text, naive.net(), net.net());
            text.setLength(0);
        }
    }

    private String line(boolean evenly, boolean few, int rooms) {
        int a = random.nextInt(rooms);
        int b = random.nextInt(rooms);
        switch (random.nextInt(few ? 9 : 12)) {
            case 0:
                return "hands" + (1 + random.nextInt(random.nextInt(3) == 0 ? 9 : 3));
            case 1:
                return "chance " + (1 + random.nextInt(10));
            case 2:
                return "folk " + a + " " + random.nextInt(random.nextBoolean() ? 100 : 6);
            case 3:
                return "thick" + a + " " + (1 + random.nextInt(random.nextInt(4) == 0 ? 9 : 3));
            default:
                if (a == b) {
                    return "folk " + a + " 2";
                }
                String word = random.nextInt(12) == 0 ? "shut " : evenly || random.nextBoolean() ? "door " : "way ";
                return word + a + " " + b;
        }
    }

    /** A text like those that are right, but for some strokes. */
    private void tellFaulty() {
        StringBuilder text = new StringBuilder();
        int lines = random.nextInt(random.nextInt(5) == 0 ? 14 : 4);
        for (int i = 0; i < lines; i++) {
            text.append(i == 0 ? "" : ";").append(blanks()).append(WORDS[random.nextInt(8)]).append(blanks());
            text.append(random.nextInt(random.nextInt(4) == 0 ? 120 : 4));
            text.append(random.nextInt(3) == 0 ? "" : " " + random.nextInt(random.nextInt(4) == 0 ? 120 : 4)).append(blanks());
        }
        for (int i = random.nextInt(3); i > 0 && text.length() > 0; i--) {
            int place = random.nextInt(text.length());
            if (random.nextBoolean()) {
                text.deleteCharAt(place);
            } else {
                text.insert(place, (char) (random.nextBoolean() ? random.nextInt(256) : "; 019az".charAt(random.nextInt(7))));
            }
        }
        put(text.toString());
        same("fault of " + text, naive.fault(), net.fault());
        same("net of " + text, naive.net(), net.net());
        same("count(2)", naive.count(2), net.count(2));
        same("erase", naive.erase(), net.erase());
    }

    private String blanks() {
        return " ".repeat(random.nextInt(3) == 0 ? random.nextInt(4) : 0);
    }

    // ---- questions

    private int among(int low, int high) {
        if (random.nextInt(25) == 0) {
            int[] far = {low - 1, high + 1, Integer.MIN_VALUE, Integer.MAX_VALUE, -7, 1 << 20};
            return far[random.nextInt(far.length)];
        }
        return low + random.nextInt(high - low + 1);
    }

    private int aRoom() {
        return among(0, naive.count(0) - 1);
    }

    private int aSet() {
        int all = (1 << naive.count(0)) - 1;
        int set = among(0, all);
        return random.nextBoolean() ? set : set & random.nextInt();
    }

    private int limit() {
        return random.nextInt(20) == 0 ? among(0, 999) : random.nextInt(1 + naive.count(5));
    }

    private void ask(int which) {
        switch (which) {
            case 0, 1 -> askOfRooms();
            case 2, 3 -> askOfFires();
            case 4, 5, 6 -> playOn();
            case 7 -> askOfSparks();
            case 8, 9, 10, 11 -> askOfCatching();
            case 12, 13 -> askOfForcing();
            case 14, 15, 16 -> askOfChances();
            default -> askOfTokens();
        }
    }

    private void askOfRooms() {
        int room = aRoom();
        int what = among(0, 3);
        same("room " + room + " " + what, naive.room(room, what), net.room(room, what));
        int of = among(0, 6);
        same("count " + of, naive.count(of), net.count(of));
    }

    private void askOfFires() {
        int fire = aSet();
        int what = among(0, 2);
        same("least " + fire + " " + what, naive.least(fire, what), net.least(fire, what));
        int k = limit();
        same("hold " + fire + " " + k, naive.hold(fire, k), net.hold(fire, k));
    }

    private void playOn() {
        if (random.nextInt(3) == 0) {
            int fire = aSet();
            same("begin " + fire, naive.begin(fire), net.begin(fire));
        }
        int set = random.nextInt(10) == 0 ? aSet() : fittingWets();
        same("wets " + set, naive.wets(set), net.wets(set));
        int what = among(0, 4);
        same("play " + what, naive.play(what), net.play(what));
        same("play 4", naive.play(4), net.play(4));
    }

    private int fittingWets() {
        int taken = naive.play(0) | naive.play(1);
        int free = ((1 << naive.count(0)) - 1) & ~taken;
        if (naive.play(0) < 0) {
            return 0;
        }
        int set = 0;
        for (int i = 0; i < naive.count(3) && (free & ~set) != 0;) {
            int room = random.nextInt(9);
            if ((free & ~set & 1 << room) != 0) {
                set |= 1 << room;
                i++;
            }
        }
        return set;
    }

    private void askOfSparks() {
        int i = random.nextInt(9) == 0 ? among(-1, 9) : -1 + random.nextInt(4);
        same("sparks " + i, naive.sparks(i), net.sparks(i));
        int row = 0;
        for (int spark = 0; spark < 8; spark++) {
            row |= random.nextInt(random.nextInt(30) == 0 ? 16 : naive.count(0)) << 4 * spark;
        }
        int n = random.nextInt(10) == 0 ? among(1, 8) : 1 + random.nextInt(3);
        int room = aRoom();
        same("when " + row + " " + n + " " + room, naive.when(row, n, room), net.when(row, n, room));
    }

    private void askOfCatching() {
        int set = aSet();
        int room = random.nextInt(3) == 0 ? -1 : aRoom();
        same("caught " + set + " " + room, naive.caught(set, room), net.caught(set, room));
        int t = random.nextInt(3) == 0 ? 1 + random.nextInt(3) : among(1, 9);
        int what = among(0, 2);
        same("seeds " + t + " " + what, naive.seeds(t, what), net.seeds(t, what));
        int k = limit();
        same("ahead " + set + " " + k, naive.ahead(set, k), net.ahead(set, k));
    }

    private void askOfForcing() {
        int set = aSet();
        int room = random.nextInt(4) == 0 ? -1 : aRoom();
        int what = among(0, 1);
        same("forced " + set + " " + room + " " + what, naive.forced(set, room, what), net.forced(set, room, what));
        int of = among(0, 4);
        same("forcers " + of, naive.forcers(of), net.forcers(of));
    }

    private void askOfChances() {
        int a = aRoom();
        int b = aRoom();
        int part = among(0, 1);
        same("carried " + a + " " + b + " " + part, naive.carried(a, b, part), net.carried(a, b, part));
        same("mean " + a + " " + part, naive.mean(a, part), net.mean(a, part));
    }

    private void askOfTokens() {
        int room = aRoom();
        int been = random.nextBoolean() ? 0 : aSet() & aSet();
        int what = among(0, 3);
        same("token " + room + " " + been + " " + what, naive.token(room, been, what), net.token(room, been, what));
        same("pairs", naive.pairs(), net.pairs());
    }
}
