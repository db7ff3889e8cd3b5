import java.math.BigInteger;
import java.util.ArrayList;
import java.util.HashMap;
import java.util.List;
import java.util.Map;
import java.util.regex.Matcher;
import java.util.regex.Pattern;

/**
 * The document once more, as literally and as unlike the class as may be: no bits but at the border, no early ends, whole
 * enumerations. What two readings of the document agree on is not proved right, but slips of the hand are found.
 */
final class Naive {
    static final int NONE = -1, UNKNOWN = -2, OUTSIDE = -3, NOT = -4, FULL = -5;
    private static final Pattern TOKEN = Pattern.compile("[a-z]+|[0-9]+|[^ ]", Pattern.DOTALL);

    private int n = 1;
    private boolean[][] way = new boolean[9][9];
    private int[] folk = {1, 1, 1, 1, 1, 1, 1, 1, 1};
    private int[] thick = {1, 1, 1, 1, 1, 1, 1, 1, 1};
    private int hands = 1;
    private int chance = 10;
    private final StringBuilder text = new StringBuilder();

    private boolean[] playBurns = null;
    private boolean[] playWet;
    private boolean playEnded;
    private List<Boolean> playBad;

    // ---- sets

    private boolean noSet(int set) {
        return set < 0 || set >= 1 << n;
    }

    private boolean noRoom(int room) {
        return room < 0 || room >= n;
    }

    private boolean[] flags(int set) {
        boolean[] in = new boolean[n];
        for (int i = 0; i < n; i++) {
            in[i] = (set & 1 << i) != 0;
        }
        return in;
    }

    private int number(boolean[] in) {
        int sum = 0;
        for (int i = 0; i < in.length; i++) {
            sum += in[i] ? 1 << i : 0;
        }
        return sum;
    }

    private int size(boolean[] in) {
        int sum = 0;
        for (boolean one : in) {
            sum += one ? 1 : 0;
        }
        return sum;
    }

    private int folkOf(boolean[] in) {
        int sum = 0;
        for (int i = 0; i < n; i++) {
            sum += in[i] ? folk[i] : 0;
        }
        return sum;
    }

    private boolean full(boolean[] in) {
        return size(in) == n;
    }

    // ---- the net

    int write(long bytes, int many) {
        if (many < 1 || many > 8) {
            return OUTSIDE;
        }
        if (text.length() + many > 200) {
            return FULL;
        }
        for (int i = 0; i < many; i++) {
            text.append((char) (bytes >> 8 * i & 255));
        }
        return text.length();
    }

    int erase() {
        int had = text.length();
        text.setLength(0);
        return had;
    }

    private static final class Token {
        final String text;
        final int place;

        Token(String text, int place) {
            this.text = text;
            this.place = place;
        }

        boolean isNumber(int low, int high) {
            return text.matches("[0-9]{1,2}") && Integer.parseInt(text) >= low && Integer.parseInt(text) <= high;
        }
    }

    private List<Token> tokens() {
        List<Token> found = new ArrayList<>();
        Matcher matcher = TOKEN.matcher(text);
        while (matcher.find()) {
            found.add(new Token(matcher.group(), matcher.start()));
        }
        found.add(new Token("", text.length()));
        return found;
    }

    /** The place of the fault; the lines that stand ahead of it go to lines. */
    private int read(List<String[]> lines) {
        List<Token> tokens = tokens();
        int rooms = n;
        int at = 0;
        while (true) {
            Token word = tokens.get(at++);
            int arguments;
            switch (word.text) {
                case "rooms", "hands", "chance" -> arguments = 1;
                case "door", "way", "shut", "folk", "thick" -> arguments = 2;
                default -> {
                    return word.place;
                }
            }
            String[] line = new String[arguments + 1];
            line[0] = word.text;
            for (int i = 1; i <= arguments; i++) {
                Token number = tokens.get(at);
                if (!canStand(number, line, i, rooms)) {
                    return number.place;
                }
                line[i] = number.text;
                at++;
            }
            lines.add(line);
            if (word.text.equals("rooms")) {
                rooms = Integer.parseInt(line[1]);
            }
            Token next = tokens.get(at++);
            if (next.text.isEmpty()) {
                return NONE;
            }
            if (!next.text.equals(";") || lines.size() == 12) {
                return next.place;
            }
        }
    }

    private static boolean canStand(Token number, String[] line, int i, int rooms) {
        switch (line[0]) {
            case "rooms", "hands":
                return number.isNumber(1, 9);
            case "chance":
                return number.isNumber(1, 10);
            default:
                break;
        }
        if (i == 1) {
            return number.isNumber(0, rooms - 1);
        }
        switch (line[0]) {
            case "folk":
                return number.isNumber(0, 99);
            case "thick":
                return number.isNumber(1, 9);
            default:
                return number.isNumber(0, rooms - 1) && Integer.parseInt(number.text) != Integer.parseInt(line[1]);
        }
    }

    int fault() {
        return read(new ArrayList<>());
    }

    int net() {
        List<String[]> lines = new ArrayList<>();
        if (read(lines) != NONE) {
            return NOT;
        }
        for (String[] line : lines) {
            int a = Integer.parseInt(line[1]);
            int b = line.length > 2 ? Integer.parseInt(line[2]) : 0;
            switch (line[0]) {
                case "rooms" -> {
                    n = a;
                    way = new boolean[9][9];
                    folk = new int[] {1, 1, 1, 1, 1, 1, 1, 1, 1};
                    thick = new int[] {1, 1, 1, 1, 1, 1, 1, 1, 1};
                }
                case "door" -> {
                    way[a][b] = true;
                    way[b][a] = true;
                }
                case "way" -> way[a][b] = true;
                case "shut" -> {
                    way[a][b] = false;
                    way[b][a] = false;
                }
                case "folk" -> folk[a] = b;
                case "thick" -> thick[a] = b;
                case "hands" -> hands = a;
                default -> chance = a;
            }
        }
        text.setLength(0);
        playBurns = null;
        return lines.size();
    }

    int room(int room, int what) {
        if (noRoom(room)) {
            return UNKNOWN;
        }
        boolean[] in = new boolean[n];
        for (int i = 0; i < n; i++) {
            in[i] = what == 0 ? way[room][i] : way[i][room];
        }
        return what == 0 || what == 1 ? number(in) : what == 2 ? folk[room] : what == 3 ? thick[room] : OUTSIDE;
    }

    // ---- fires

    private boolean[] spread(boolean[] burns, boolean[] wet) {
        boolean[] then = burns.clone();
        for (int a = 0; a < n; a++) {
            for (int b = 0; b < n; b++) {
                if (burns[a] && way[a][b] && !wet[b]) {
                    then[b] = true;
                }
            }
        }
        return then;
    }

    private List<boolean[]> choices(boolean[] burns, boolean[] wet, int h) {
        int free = 0;
        for (int i = 0; i < n; i++) {
            free += !burns[i] && !wet[i] ? 1 : 0;
        }
        List<boolean[]> found = new ArrayList<>();
        for (int set = 0; set < 1 << n; set++) {
            boolean[] in = flags(set);
            boolean fits = size(in) == Math.min(h, free);
            for (int i = 0; i < n; i++) {
                fits &= !in[i] || !burns[i] && !wet[i];
            }
            if (fits) {
                found.add(in);
            }
        }
        return found;
    }

    private static boolean[] or(boolean[] a, boolean[] b) {
        boolean[] c = a.clone();
        for (int i = 0; i < c.length; i++) {
            c[i] |= b[i];
        }
        return c;
    }

    private int lostBy(boolean[] burns, boolean[] wet, boolean[] choice, int h, Map<Long, Integer> known) {
        boolean[] wetThen = or(wet, choice);
        boolean[] then = spread(burns, wetThen);
        return size(then) == size(burns) ? folkOf(then) : lost(then, wetThen, h, known);
    }

    private int lost(boolean[] burns, boolean[] wet, int h, Map<Long, Integer> known) {
        long key = number(burns) * 1000L + number(wet);
        if (known.containsKey(key)) {
            return known.get(key);
        }
        int best = Integer.MAX_VALUE;
        for (boolean[] choice : choices(burns, wet, h)) {
            best = Math.min(best, lostBy(burns, wet, choice, h, known));
        }
        known.put(key, best);
        return best;
    }

    int least(int fire, int what) {
        if (noSet(fire) || what < 0 || what > 2) {
            return OUTSIDE;
        }
        Map<Long, Integer> known = new HashMap<>();
        boolean[] dry = new boolean[n];
        int best = lost(flags(fire), dry, hands, known);
        if (what == 0) {
            return best;
        }
        int first = NONE;
        int many = 0;
        for (boolean[] choice : choices(flags(fire), dry, hands)) {
            if (lostBy(flags(fire), dry, choice, hands, known) == best) {
                many++;
                first = first == NONE ? number(choice) : Math.min(first, number(choice));
            }
        }
        return what == 1 ? first : many;
    }

    int hold(int fire, int k) {
        if (noSet(fire) || k < 0 || k > 999) {
            return OUTSIDE;
        }
        for (int h = 1; h <= 9; h++) {
            if (lost(flags(fire), new boolean[n], h, new HashMap<>()) <= k) {
                return h;
            }
        }
        return NONE;
    }

    int begin(int fire) {
        if (noSet(fire)) {
            return OUTSIDE;
        }
        playBurns = flags(fire);
        playWet = new boolean[n];
        playEnded = false;
        playBad = new ArrayList<>();
        return least(fire, 0);
    }

    int wets(int set) {
        if (noSet(set)) {
            return OUTSIDE;
        }
        if (playBurns == null || playEnded) {
            return NOT;
        }
        boolean fits = false;
        for (boolean[] choice : choices(playBurns, playWet, hands)) {
            fits |= number(choice) == set;
        }
        if (!fits) {
            return NOT;
        }
        Map<Long, Integer> known = new HashMap<>();
        int aheadOfIt = lost(playBurns, playWet, hands, known);
        int behindIt = lostBy(playBurns, playWet, flags(set), hands, known);
        playBad.add(behindIt > aheadOfIt);
        playWet = or(playWet, flags(set));
        boolean[] then = spread(playBurns, playWet);
        playEnded = size(then) == size(playBurns);
        playBurns = then;
        return number(then);
    }

    int play(int what) {
        if (what < 0 || what > 4) {
            return OUTSIDE;
        }
        if (playBurns == null) {
            return NOT;
        }
        int bad = 0;
        for (int i = 0; i < playBad.size(); i++) {
            bad += playBad.get(i) ? 1 << i : 0;
        }
        return switch (what) {
            case 0 -> number(playBurns);
            case 1 -> number(playWet);
            case 2 -> playBad.size();
            case 3 -> playEnded ? 1 : 0;
            default -> bad;
        };
    }

    // ---- sparks

    /** The first row of sparks by which all burns in just so many turns, or null. */
    private List<Integer> row(boolean[] burns, int turns) {
        boolean[] then = spread(burns, new boolean[n]);
        if (full(then)) {
            return turns == 1 ? new ArrayList<>() : null;
        }
        if (turns == 0) {
            return null;
        }
        for (int r = 0; r < n; r++) {
            if (!then[r]) {
                boolean[] more = then.clone();
                more[r] = true;
                List<Integer> rest = full(more) ? (turns == 1 ? new ArrayList<>() : null) : row(more, turns - 1);
                if (rest != null) {
                    rest.add(0, r);
                    return rest;
                }
            }
        }
        return null;
    }

    int sparks(int i) {
        if (i < -1) {
            return OUTSIDE;
        }
        int turns = 1;
        while (row(new boolean[n], turns) == null) {
            turns++;
        }
        List<Integer> row = row(new boolean[n], turns);
        return i == -1 ? turns : i < row.size() ? row.get(i) : NONE;
    }

    int when(int row, int many, int room) {
        if (noRoom(room)) {
            return UNKNOWN;
        }
        if (many < 1 || many > 8) {
            return OUTSIDE;
        }
        for (int i = 0; i < many; i++) {
            if (noRoom(row >> 4 * i & 15)) {
                return UNKNOWN;
            }
        }
        boolean[] burns = new boolean[n];
        for (int turn = 1; turn < 50; turn++) {
            burns = spread(burns, new boolean[n]);
            if (turn <= many) {
                burns[row >> 4 * (turn - 1) & 15] = true;
            }
            if (burns[room]) {
                return turn;
            }
        }
        return NONE;
    }

    // ---- catching, forcing

    private int[] catching(boolean[] set, boolean[] wet) {
        int[] turnOf = new int[n];
        for (int i = 0; i < n; i++) {
            turnOf[i] = set[i] ? 0 : NONE;
        }
        for (int turn = 1; turn <= 20; turn++) {
            for (int r = 0; r < n; r++) {
                int burning = 0;
                for (int a = 0; a < n; a++) {
                    burning += way[a][r] && turnOf[a] != NONE && turnOf[a] < turn ? 1 : 0;
                }
                if (turnOf[r] == NONE && !wet[r] && burning >= thick[r]) {
                    turnOf[r] = turn;
                }
            }
        }
        return turnOf;
    }

    private boolean[] everBurns(int[] turnOf, int limit) {
        boolean[] in = new boolean[n];
        for (int i = 0; i < n; i++) {
            in[i] = turnOf[i] != NONE && turnOf[i] <= limit;
        }
        return in;
    }

    int caught(int set, int room) {
        if (room != NONE && noRoom(room)) {
            return UNKNOWN;
        }
        if (noSet(set)) {
            return OUTSIDE;
        }
        int[] turnOf = catching(flags(set), new boolean[n]);
        return room == NONE ? number(everBurns(turnOf, 99)) : turnOf[room];
    }

    /** How many rooms, which set, how many sets, of those that fit. */
    private int ofLeast(List<Integer> fitting, int what) {
        int size = 99;
        int first = NONE;
        int many = 0;
        for (int set : fitting) {
            if (Integer.bitCount(set) < size) {
                size = Integer.bitCount(set);
                first = set;
                many = 0;
            }
            if (Integer.bitCount(set) == size) {
                first = Math.min(first, set);
                many++;
            }
        }
        return what == 0 ? size : what == 1 ? first : many;
    }

    int seeds(int t, int what) {
        if (t < 1 || t > 9 || what < 0 || what > 2) {
            return OUTSIDE;
        }
        List<Integer> fitting = new ArrayList<>();
        for (int set = 0; set < 1 << n; set++) {
            if (full(everBurns(catching(flags(set), new boolean[n]), t))) {
                fitting.add(set);
            }
        }
        return ofLeast(fitting, what);
    }

    int ahead(int set, int k) {
        if (noSet(set) || k < 0 || k > 999) {
            return OUTSIDE;
        }
        List<Integer> fitting = new ArrayList<>();
        for (int wet = 0; wet < 1 << n; wet++) {
            if ((wet & set) == 0 && folkOf(everBurns(catching(flags(set), flags(wet)), 99)) <= k) {
                fitting.add(wet);
            }
        }
        return fitting.isEmpty() ? NONE : ofLeast(fitting, 1);
    }

    /** For each room its round and by which. */
    private int[][] forcing(boolean[] set) {
        int[][] told = new int[n][2];
        for (int r = 0; r < n; r++) {
            told[r][0] = set[r] ? 0 : NONE;
            told[r][1] = NONE;
        }
        boolean[] burns = set.clone();
        for (int round = 1; round <= 20; round++) {
            boolean[] then = burns.clone();
            for (int a = n - 1; a >= 0; a--) {
                List<Integer> left = new ArrayList<>();
                for (int b = 0; b < n; b++) {
                    if (way[a][b] && !burns[b]) {
                        left.add(b);
                    }
                }
                if (burns[a] && left.size() == 1) {
                    then[left.get(0)] = true;
                    told[left.get(0)][0] = round;
                    told[left.get(0)][1] = a;
                }
            }
            burns = then;
        }
        return told;
    }

    int forced(int set, int room, int what) {
        if (room != NONE && noRoom(room)) {
            return UNKNOWN;
        }
        if (noSet(set) || room != NONE && what != 0 && what != 1) {
            return OUTSIDE;
        }
        int[][] told = forcing(flags(set));
        if (room != NONE) {
            return told[room][what];
        }
        boolean[] in = new boolean[n];
        for (int i = 0; i < n; i++) {
            in[i] = told[i][0] != NONE;
        }
        return number(in);
    }

    int forcers(int what) {
        if (what < 0 || what > 4) {
            return OUTSIDE;
        }
        List<Integer> fitting = new ArrayList<>();
        int cost = 99;
        int cheap = NONE;
        for (int set = 0; set < 1 << n; set++) {
            int rounds = 0;
            boolean all = true;
            for (int[] of : forcing(flags(set))) {
                rounds = Math.max(rounds, of[0]);
                all &= of[0] != NONE;
            }
            if (all) {
                fitting.add(set);
                if (Integer.bitCount(set) + rounds < cost) {
                    cost = Integer.bitCount(set) + rounds;
                    cheap = set;
                }
            }
        }
        return what < 3 ? ofLeast(fitting, what) : what == 3 ? cost : cheap;
    }

    // ---- chances, tokens

    private List<int[]> ways() {
        List<int[]> found = new ArrayList<>();
        for (int a = 0; a < n; a++) {
            for (int b = 0; b < n; b++) {
                if (way[a][b]) {
                    found.add(new int[] {a, b});
                }
            }
        }
        return found;
    }

    private boolean[] reached(int a, List<int[]> carrying) {
        boolean[] in = new boolean[n];
        in[a] = true;
        for (int i = 0; i < n; i++) {
            for (int[] one : carrying) {
                in[one[1]] |= in[one[0]];
            }
        }
        return in;
    }

    private long chances(int a, int b, int part) {
        List<int[]> ways = ways();
        BigInteger above = BigInteger.ZERO;
        for (int cases = 0; cases < 1 << ways.size(); cases++) {
            List<int[]> carrying = new ArrayList<>();
            BigInteger weight = BigInteger.ONE;
            for (int i = 0; i < ways.size(); i++) {
                boolean carries = (cases & 1 << i) != 0;
                weight = weight.multiply(BigInteger.valueOf(carries ? chance : 10 - chance));
                if (carries) {
                    carrying.add(ways.get(i));
                }
            }
            boolean[] in = reached(a, carrying);
            int worth = b == NONE ? folkOf(in) : in[b] ? 1 : 0;
            above = above.add(weight.multiply(BigInteger.valueOf(worth)));
        }
        BigInteger below = BigInteger.TEN.pow(ways.size());
        BigInteger common = above.gcd(below);
        return (part == 0 ? above : below).divide(common).longValueExact();
    }

    long carried(int a, int b, int part) {
        if (noRoom(a) || noRoom(b)) {
            return UNKNOWN;
        }
        return part < 0 || part > 1 ? OUTSIDE : ways().size() > 10 ? NOT : chances(a, b, part);
    }

    long mean(int a, int part) {
        if (noRoom(a)) {
            return UNKNOWN;
        }
        return part < 0 || part > 1 ? OUTSIDE : ways().size() > 10 ? NOT : chances(a, NONE, part);
    }

    /** 1 or 0 for who goes now wins or not, the goes, the step, the most goes alone. */
    private int[] walk(int room, boolean[] been) {
        boolean wins = false;
        int soonest = 99;
        int soonestStep = NONE;
        int latest = 0;
        int latestStep = NONE;
        int alone = 0;
        for (int r = 0; r < n; r++) {
            if (way[room][r] && !been[r]) {
                been[r] = true;
                int[] then = walk(r, been);
                been[r] = false;
                alone = Math.max(alone, 1 + then[3]);
                if (then[0] == 0) {
                    wins = true;
                    if (1 + then[1] < soonest) {
                        soonest = 1 + then[1];
                        soonestStep = r;
                    }
                }
                if (1 + then[1] > latest) {
                    latest = 1 + then[1];
                    latestStep = r;
                }
            }
        }
        return wins ? new int[] {1, soonest, soonestStep, alone} : new int[] {0, latest, latestStep, alone};
    }

    int token(int room, int been, int what) {
        if (noRoom(room)) {
            return UNKNOWN;
        }
        if (noSet(been) || what < 0 || what > 3) {
            return OUTSIDE;
        }
        boolean[] was = flags(been);
        was[room] = true;
        return walk(room, was)[what];
    }

    private boolean even() {
        for (int[] one : ways()) {
            if (!way[one[1]][one[0]]) {
                return false;
            }
        }
        return true;
    }

    private int mostDoors(List<int[]> doors, int from, boolean[] taken) {
        int best = 0;
        for (int i = from; i < doors.size(); i++) {
            int a = doors.get(i)[0];
            int b = doors.get(i)[1];
            if (!taken[a] && !taken[b]) {
                taken[a] = true;
                taken[b] = true;
                best = Math.max(best, 1 + mostDoors(doors, i + 1, taken));
                taken[a] = false;
                taken[b] = false;
            }
        }
        return best;
    }

    int pairs() {
        if (!even()) {
            return NOT;
        }
        List<int[]> doors = new ArrayList<>();
        for (int[] one : ways()) {
            if (one[0] < one[1]) {
                doors.add(one);
            }
        }
        return mostDoors(doors, 0, new boolean[n]);
    }

    int count(int what) {
        boolean[] all = new boolean[n];
        java.util.Arrays.fill(all, true);
        return switch (what) {
            case 0 -> n;
            case 1 -> ways().size();
            case 2 -> text.length();
            case 3 -> hands;
            case 4 -> chance;
            case 5 -> folkOf(all);
            case 6 -> even() ? 1 : 0;
            default -> OUTSIDE;
        };
    }
}
