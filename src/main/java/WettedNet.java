/** Rooms with doors and ways, and what fires, sparks, chances and tokens do in them. */
public final class WettedNet {
    public static final int NONE = -1, UNKNOWN = -2, OUTSIDE = -3, NOT = -4, FULL = -5;

    private static final int MOST_ROOMS = 9;
    private static final int MOST_SETS = 1 << MOST_ROOMS;
    private static final int MOST_BYTES = 200;
    private static final int MOST_WRITTEN = 8;
    private static final int MOST_LINES = 12;
    private static final int MOST_FOLK = 99;
    private static final int MOST_THICK = 9;
    private static final int MOST_HANDS = 9;
    private static final int MOST_TURNS = 9;
    private static final int MOST_SPARKS = 8;
    private static final int MOST_LOST = 999;
    private static final int MOST_CARRYING = 10;
    private static final int TENTHS = 10;

    private static final int ROOMS = 0, DOOR = 1, WAY = 2, SHUT = 3, FOLK = 4, THICK = 5, HANDS = 6, CHANCE = 7;
    private static final int KINDS = 8;

    /** Far above what any question can answer, so that the first real answer is less. */
    private static final int TOO_MANY = 1000000;

    private final Rooms rooms;
    private final Script script;
    private final Fires fires;
    private final Game game;
    private final Throwing throwing;
    private final Catching catching;
    private final Forcing forcing;
    private final Chances chances;
    private final Walks walks;

    public WettedNet() {
        Memo memo = new Memo();
        Sets sets = new Sets();
        rooms = new Rooms();
        script = new Script();
        fires = new Fires(rooms, sets, memo);
        game = new Game(rooms, fires);
        throwing = new Throwing(rooms, memo);
        catching = new Catching(rooms, sets);
        forcing = new Forcing(rooms, sets);
        chances = new Chances(rooms);
        walks = new Walks(rooms, memo);
    }

    // ---- the net

    public int write(long bytes, int n) {
        if (!within(n, 1, MOST_WRITTEN)) {
            return OUTSIDE;
        }
        if (script.size() + n > MOST_BYTES) {
            return FULL;
        }
        for (int i = 0; i < n; i++) {
            script.add((int) (bytes >> (8 * i)) & 255);
        }
        return script.size();
    }

    public int erase() {
        int had = script.size();
        script.empty();
        return had;
    }

    public int fault() {
        return script.firstFault(rooms.howMany());
    }

    public int net() {
        if (script.firstFault(rooms.howMany()) != NONE) {
            return NOT;
        }
        int lines = script.lines();
        for (int i = 0; i < lines; i++) {
            rooms.change(script.kind(i), script.first(i), script.second(i));
        }
        script.empty();
        game.drop();
        return lines;
    }

    public int room(int room, int what) {
        if (!rooms.isRoom(room)) {
            return UNKNOWN;
        }
        switch (what) {
            case 0:
                return rooms.beside(room);
            case 1:
                return rooms.at(room);
            case 2:
                return rooms.folk(room);
            case 3:
                return rooms.thick(room);
            default:
                return OUTSIDE;
        }
    }

    // ---- fires

    public int least(int fire, int what) {
        if (!rooms.isSet(fire) || !within(what, 0, 2)) {
            return OUTSIDE;
        }
        if (what == 0) {
            return fires.leastLost(fire, 0, rooms.hands());
        }
        return what == 1 ? fires.firstWet(fire) : fires.firstWets(fire);
    }

    public int hold(int fire, int k) {
        if (!rooms.isSet(fire) || !within(k, 0, MOST_LOST)) {
            return OUTSIDE;
        }
        for (int hands = 1; hands <= MOST_HANDS; hands++) {
            if (fires.leastLost(fire, 0, hands) <= k) {
                return hands;
            }
        }
        return NONE;
    }

    public int begin(int fire) {
        if (!rooms.isSet(fire)) {
            return OUTSIDE;
        }
        return game.start(fire);
    }

    public int wets(int set) {
        if (!rooms.isSet(set)) {
            return OUTSIDE;
        }
        if (!game.mayWet(set)) {
            return NOT;
        }
        return game.takeTurn(set);
    }

    public int play(int what) {
        if (!within(what, 0, 4)) {
            return OUTSIDE;
        }
        if (!game.isBegun()) {
            return NOT;
        }
        return game.tell(what);
    }

    // ---- sparks

    public int sparks(int i) {
        if (i < NONE) {
            return OUTSIDE;
        }
        return i == NONE ? throwing.fewestTurns() : throwing.sparkOf(i);
    }

    public int when(int row, int n, int room) {
        if (!rooms.isRoom(room)) {
            return UNKNOWN;
        }
        if (!within(n, 1, MOST_SPARKS)) {
            return OUTSIDE;
        }
        for (int i = 0; i < n; i++) {
            if (!rooms.isRoom(Throwing.told(row, i))) {
                return UNKNOWN;
            }
        }
        return throwing.turnOf(row, n, room);
    }

    // ---- catching, forcing

    public int caught(int set, int room) {
        if (room != NONE && !rooms.isRoom(room)) {
            return UNKNOWN;
        }
        if (!rooms.isSet(set)) {
            return OUTSIDE;
        }
        int burning = catching.burnFrom(set, 0, MOST_TURNS);
        return room == NONE ? burning : catching.turnOf(room);
    }

    public int seeds(int t, int what) {
        if (!within(t, 1, MOST_TURNS) || !within(what, 0, 2)) {
            return OUTSIDE;
        }
        if (what == 2) {
            return catching.leastSeedSets(t);
        }
        int set = catching.leastSeeds(t);
        return what == 0 ? Integer.bitCount(set) : set;
    }

    public int ahead(int set, int k) {
        if (!rooms.isSet(set) || !within(k, 0, MOST_LOST)) {
            return OUTSIDE;
        }
        return catching.leastWetAhead(set, k);
    }

    public int forced(int set, int room, int what) {
        if (room != NONE && !rooms.isRoom(room)) {
            return UNKNOWN;
        }
        if (!rooms.isSet(set) || (room != NONE && !within(what, 0, 1))) {
            return OUTSIDE;
        }
        int burning = forcing.burnFrom(set);
        if (room == NONE) {
            return burning;
        }
        return what == 0 ? forcing.roundOf(room) : forcing.forcerOf(room);
    }

    public int forcers(int what) {
        switch (what) {
            case 0:
                return Integer.bitCount(forcing.leastForcers());
            case 1:
                return forcing.leastForcers();
            case 2:
                return forcing.leastForcerSets();
            case 3:
                return forcing.costOf(forcing.cheapest());
            case 4:
                return forcing.cheapest();
            default:
                return OUTSIDE;
        }
    }

    // ---- chances, tokens

    public long carried(int a, int b, int part) {
        if (!rooms.isRoom(a) || !rooms.isRoom(b)) {
            return UNKNOWN;
        }
        if (!within(part, 0, 1)) {
            return OUTSIDE;
        }
        return rooms.ways() > MOST_CARRYING ? NOT : chances.reach(a, b, part);
    }

    public long mean(int a, int part) {
        if (!rooms.isRoom(a)) {
            return UNKNOWN;
        }
        if (!within(part, 0, 1)) {
            return OUTSIDE;
        }
        return rooms.ways() > MOST_CARRYING ? NOT : chances.meanFolk(a, part);
    }

    public int token(int room, int been, int what) {
        if (!rooms.isRoom(room)) {
            return UNKNOWN;
        }
        if (!rooms.isSet(been)) {
            return OUTSIDE;
        }
        switch (what) {
            case 0:
                // Who goes first wins just when the last go is his: when the goes are odd.
                return walks.length(room, been) & 1;
            case 1:
                return walks.length(room, been);
            case 2:
                return walks.step(room, been);
            case 3:
                return walks.alone(room, been);
            default:
                return OUTSIDE;
        }
    }

    public int pairs() {
        return rooms.isEven() ? walks.mostPairs() : NOT;
    }

    public int count(int what) {
        switch (what) {
            case 0:
                return rooms.howMany();
            case 1:
                return rooms.ways();
            case 2:
                return script.size();
            case 3:
                return rooms.hands();
            case 4:
                return rooms.chance();
            case 5:
                return rooms.folkOf(rooms.all());
            case 6:
                return rooms.isEven() ? 1 : 0;
            default:
                return OUTSIDE;
        }
    }

    private static boolean within(int number, int low, int high) {
        return number >= low && number <= high;
    }

    private static boolean has(int set, int room) {
        return (set >> room & 1) != 0;
    }

    /** The net as it is now. */
    private static final class Rooms {
        private final int[] besideOf = new int[MOST_ROOMS];
        private final int[] atOf = new int[MOST_ROOMS];
        private final int[] folkIn = new int[MOST_ROOMS];
        private final int[] thickOf = new int[MOST_ROOMS];
        private int number;
        private int wetting = 1;
        private int tenths = TENTHS;

        Rooms() {
            restart(1);
        }

        int howMany() {
            return number;
        }

        int hands() {
            return wetting;
        }

        int chance() {
            return tenths;
        }

        int all() {
            return (1 << number) - 1;
        }

        boolean isRoom(int room) {
            return room >= 0 && room < number;
        }

        boolean isSet(int set) {
            return within(set, 0, all());
        }

        int beside(int room) {
            return room >= 0 && room < number ? besideOf[room] : 0;
        }

        int at(int room) {
            return room >= 0 && room < number ? atOf[room] : 0;
        }

        int folk(int room) {
            return room >= 0 && room < number ? folkIn[room] : 0;
        }

        int thick(int room) {
            return room >= 0 && room < number ? thickOf[room] : 0;
        }

        int besideAny(int set) {
            int found = 0;
            for (int r = 0; r < number; r++) {
                if (has(set, r)) {
                    found |= besideOf[r];
                }
            }
            return found;
        }

        int folkOf(int set) {
            int sum = 0;
            for (int r = 0; r < number; r++) {
                if (has(set, r)) {
                    sum += folkIn[r];
                }
            }
            return sum;
        }

        int ways() {
            int sum = 0;
            for (int r = 0; r < number; r++) {
                sum += Integer.bitCount(besideOf[r]);
            }
            return sum;
        }

        boolean isEven() {
            for (int r = 0; r < number; r++) {
                if (besideOf[r] != atOf[r]) {
                    return false;
                }
            }
            return true;
        }

        void change(int kind, int a, int b) {
            switch (kind) {
                case ROOMS:
                    restart(a);
                    break;
                case HANDS:
                    wetting = a;
                    break;
                case CHANCE:
                    tenths = a;
                    break;
                default:
                    changeRoom(kind, a, b);
                    break;
            }
        }

        private void restart(int rooms) {
            if (!within(rooms, 1, MOST_ROOMS)) {
                return;
            }
            number = rooms;
            for (int r = 0; r < MOST_ROOMS; r++) {
                besideOf[r] = 0;
                atOf[r] = 0;
                folkIn[r] = 1;
                thickOf[r] = 1;
            }
        }

        private void changeRoom(int kind, int a, int b) {
            if (!isRoom(a)) {
                return;
            }
            if (kind == FOLK) {
                folkIn[a] = b;
            } else if (kind == THICK) {
                thickOf[a] = b;
            } else if (isRoom(b)) {
                changeWays(kind, a, b);
            }
        }

        private void changeWays(int kind, int a, int b) {
            setWay(a, b, kind != SHUT);
            if (kind != WAY) {
                setWay(b, a, kind != SHUT);
            }
        }

        private void setWay(int a, int b, boolean open) {
            if (open) {
                besideOf[a] |= 1 << b;
                atOf[b] |= 1 << a;
            } else {
                besideOf[a] &= ~(1 << b);
                atOf[b] &= ~(1 << a);
            }
        }
    }

    /** THE TEXT, and the lines that the last reading found in it. */
    private static final class Script {
        private static final int BLANK = 32;

        private final int[] bytes = new int[MOST_BYTES];
        private final int[] kinds = new int[MOST_LINES];
        private final int[] firsts = new int[MOST_LINES];
        private final int[] seconds = new int[MOST_LINES];
        private int length;
        private int found;
        private int place;
        private int roomsThen;

        int size() {
            return length;
        }

        int lines() {
            return found;
        }

        int kind(int line) {
            return within(line, 0, found - 1) ? kinds[line] : NONE;
        }

        int first(int line) {
            return within(line, 0, found - 1) ? firsts[line] : NONE;
        }

        int second(int line) {
            return within(line, 0, found - 1) ? seconds[line] : NONE;
        }

        void add(int value) {
            if (length < MOST_BYTES) {
                bytes[length] = value;
                length++;
            }
        }

        void empty() {
            length = 0;
            found = 0;
        }

        int firstFault(int roomsNow) {
            place = 0;
            found = 0;
            roomsThen = roomsNow;
            for (int line = 0; line < MOST_LINES; line++) {
                if (!readLine(line)) {
                    return place;
                }
                found = line + 1;
                skipBlanks();
                if (place >= length) {
                    return NONE;
                }
                if (byteAt(place) != ';' || found == MOST_LINES) {
                    return place;
                }
                place++;
            }
            return NONE;
        }

        /** Where it answers false, place stands on the token that is the fault, or at the end. */
        private boolean readLine(int line) {
            skipBlanks();
            int end = endOfRow('a', 'z');
            int kind = kindOf(end);
            if (kind == NONE) {
                return false;
            }
            place = end;
            int first = readFirst(kind);
            if (first == NONE) {
                return false;
            }
            if (kind == ROOMS) {
                roomsThen = first;
            }
            int second = takesTwo(kind) ? readSecond(kind, first) : 0;
            if (second == NONE) {
                return false;
            }
            kinds[line] = kind;
            firsts[line] = first;
            seconds[line] = second;
            return true;
        }

        private static boolean takesTwo(int kind) {
            return kind != ROOMS && kind != HANDS && kind != CHANCE;
        }

        private int readFirst(int kind) {
            switch (kind) {
                case ROOMS:
                    return readNumber(1, MOST_ROOMS, NONE);
                case HANDS:
                    return readNumber(1, MOST_HANDS, NONE);
                case CHANCE:
                    return readNumber(1, TENTHS, NONE);
                default:
                    return readNumber(0, roomsThen - 1, NONE);
            }
        }

        private int readSecond(int kind, int first) {
            switch (kind) {
                case FOLK:
                    return readNumber(0, MOST_FOLK, NONE);
                case THICK:
                    return readNumber(1, MOST_THICK, NONE);
                default:
                    return readNumber(0, roomsThen - 1, first);
            }
        }

        private int readNumber(int low, int high, int unlike) {
            skipBlanks();
            int end = endOfRow('0', '9');
            if (!within(end - place, 1, 2)) {
                return NONE;
            }
            int value = 0;
            for (int i = place; i < end; i++) {
                value = 10 * value + byteAt(i) - '0';
            }
            if (!within(value, low, high) || value == unlike) {
                return NONE;
            }
            place = end;
            return value;
        }

        private void skipBlanks() {
            place = endOfRow(BLANK, BLANK);
        }

        private int endOfRow(int low, int high) {
            for (int i = place; i < length; i++) {
                if (bytes[i] < low || bytes[i] > high) {
                    return i;
                }
            }
            return length;
        }

        private int byteAt(int i) {
            return i >= 0 && i < length ? bytes[i] : NONE;
        }

        private int kindOf(int end) {
            for (int kind = 0; kind < KINDS; kind++) {
                if (spells(wordOf(kind), end)) {
                    return kind;
                }
            }
            return NONE;
        }

        private boolean spells(String word, int end) {
            if (end - place != word.length()) {
                return false;
            }
            for (int i = 0; i < word.length(); i++) {
                if (byteAt(place + i) != word.charAt(i)) {
                    return false;
                }
            }
            return true;
        }

        private static String wordOf(int kind) {
            switch (kind) {
                case ROOMS:
                    return "rooms";
                case DOOR:
                    return "door";
                case WAY:
                    return "way";
                case SHUT:
                    return "shut";
                case FOLK:
                    return "folk";
                case THICK:
                    return "thick";
                case HANDS:
                    return "hands";
                default:
                    return "chance";
            }
        }
    }

    /** All sets, the smaller ones first and by numbers within a size, so that the first that fits is the one asked for. */
    private static final class Sets {
        private final int[] ordered = new int[MOST_SETS];
        private final int[] starts = new int[MOST_ROOMS + 2];

        Sets() {
            for (int set = 0; set < MOST_SETS; set++) {
                starts[Integer.bitCount(set) + 1]++;
            }
            for (int size = 0; size <= MOST_ROOMS; size++) {
                starts[size + 1] += starts[size];
            }
            int[] next = starts.clone();
            for (int set = 0; set < MOST_SETS; set++) {
                int size = Integer.bitCount(set);
                ordered[next[size]] = set;
                next[size]++;
            }
        }

        int get(int i) {
            return i >= 0 && i < MOST_SETS ? ordered[i] : 0;
        }

        int startOf(int size) {
            return within(size, 0, MOST_ROOMS + 1) ? starts[size] : MOST_SETS;
        }
    }

    /** What searches remember. A cell bears the number of its search, so that a new search need not wipe the row. */
    private static final class Memo {
        private static final int CELLS = 19683;
        private static final int VALUE_BITS = 10;

        private int[] cells = null;
        private int search = 0;

        /** The row is made by the first search alone: an object that never searches stays small. */
        void startSearch() {
            if (cells == null) {
                cells = new int[CELLS];
            }
            search++;
        }

        int recall(int i) {
            if (cells == null || !within(i, 0, CELLS - 1) || cells[i] >> VALUE_BITS != search) {
                return NONE;
            }
            return cells[i] & (1 << VALUE_BITS) - 1;
        }

        void keep(int i, int value) {
            if (cells != null && within(i, 0, CELLS - 1)) {
                cells[i] = search << VALUE_BITS | value;
            }
        }
    }

    /** Fires against which hands wet the best rooms. */
    private static final class Fires {
        private static final int[] THREES = {0, 1, 3, 4, 9, 10, 12, 13};

        private final Rooms rooms;
        private final Sets sets;
        private final Memo memo;
        private int wetting;

        Fires(Rooms rooms, Sets sets, Memo memo) {
            this.rooms = rooms;
            this.sets = sets;
            this.memo = memo;
        }

        int leastLost(int burning, int wet, int hands) {
            wetting = hands;
            memo.startSearch();
            return lostFrom(burning, wet, 0);
        }

        int firstWet(int fire) {
            int goal = leastLost(fire, 0, rooms.hands());
            int size = howManyWet(rooms.all() & ~fire);
            int end = sets.startOf(size + 1);
            for (int i = sets.startOf(size); i < end; i++) {
                if (isFirstWet(fire, sets.get(i), goal)) {
                    return sets.get(i);
                }
            }
            return NONE;
        }

        int firstWets(int fire) {
            int goal = leastLost(fire, 0, rooms.hands());
            int size = howManyWet(rooms.all() & ~fire);
            int found = 0;
            int end = sets.startOf(size + 1);
            for (int i = sets.startOf(size); i < end; i++) {
                if (isFirstWet(fire, sets.get(i), goal)) {
                    found++;
                }
            }
            return found;
        }

        /** What burns behind a turn in which the last of the wet rooms became so. */
        int burnOn(int burning, int wet) {
            return burning | rooms.besideAny(burning) & ~wet;
        }

        private boolean isFirstWet(int fire, int set, int goal) {
            return (set & ~(rooms.all() & ~fire)) == 0 && lostFrom(burnOn(fire, set), set, 1) == goal;
        }

        private int howManyWet(int free) {
            return Math.min(wetting, Integer.bitCount(free));
        }

        private int lostFrom(int burning, int wet, int depth) {
            int cell = threes(burning) + 2 * threes(wet);
            int known = memo.recall(cell);
            if (known != NONE) {
                return known;
            }
            int next = burnOn(burning, wet);
            int lost = rooms.folkOf(burning);
            if (next != burning && depth <= MOST_ROOMS) {
                lost = lostByBest(next, rooms.all() & ~burning & ~wet, wet, lost, depth);
            }
            memo.keep(cell, lost);
            return lost;
        }

        /** What is lost already is the least that may be lost, so a set by which no more is lost ends the search. */
        private int lostByBest(int next, int free, int wet, int already, int depth) {
            int size = howManyWet(free);
            int best = TOO_MANY;
            int end = sets.startOf(size + 1);
            for (int i = sets.startOf(size); i < end && best > already; i++) {
                int set = sets.get(i);
                if ((set & ~free) == 0) {
                    best = Math.min(best, lostFrom(next & ~set, wet | set, depth + 1));
                }
            }
            return best;
        }

        /** The set's bits read as digits to the base 3: a room is free, burns or is wet, and so one digit tells it. */
        private static int threes(int set) {
            return THREES[set & 7] + 27 * THREES[set >> 3 & 7] + 729 * THREES[set >> 6 & 7];
        }
    }

    /** A PLAY told by hand. */
    private static final class Game {
        private final Rooms rooms;
        private final Fires fires;
        private boolean begun = false;
        private boolean ended = false;
        private int burning = 0;
        private int wet = 0;
        private int turns = 0;
        private int bad = 0;
        private int leastNow = 0;

        Game(Rooms rooms, Fires fires) {
            this.rooms = rooms;
            this.fires = fires;
        }

        int start(int fire) {
            begun = true;
            ended = false;
            burning = fire;
            wet = 0;
            turns = 0;
            bad = 0;
            leastNow = fires.leastLost(burning, wet, rooms.hands());
            return leastNow;
        }

        void drop() {
            begun = false;
        }

        boolean isBegun() {
            return begun;
        }

        boolean mayWet(int set) {
            int free = rooms.all() & ~burning & ~wet;
            return begun && !ended && (set & ~free) == 0
                    && Integer.bitCount(set) == Math.min(rooms.hands(), Integer.bitCount(free));
        }

        int takeTurn(int set) {
            wet |= set;
            int next = fires.burnOn(burning, wet);
            ended = next == burning;
            burning = next;
            int leastThen = fires.leastLost(burning, wet, rooms.hands());
            if (leastThen > leastNow) {
                bad |= 1 << turns;
            }
            leastNow = leastThen;
            turns++;
            return burning;
        }

        int tell(int what) {
            switch (what) {
                case 0:
                    return burning;
                case 1:
                    return wet;
                case 2:
                    return turns;
                case 3:
                    return ended ? 1 : 0;
                default:
                    return bad;
            }
        }
    }

    /** SPARKS thrown one a turn. */
    private static final class Throwing {
        private final Rooms rooms;
        private final Memo memo;

        Throwing(Rooms rooms, Memo memo) {
            this.rooms = rooms;
            this.memo = memo;
        }

        int fewestTurns() {
            memo.startSearch();
            return turnsFrom(0, 0);
        }

        int sparkOf(int i) {
            int left = fewestTurns();
            int burning = 0;
            for (int turn = 0; turn < MOST_ROOMS; turn++) {
                int spread = burning | rooms.besideAny(burning);
                if (spread == rooms.all()) {
                    return NONE;
                }
                left--;
                int spark = leastSpark(spread, left);
                if (turn == i || spark == NONE) {
                    return spark;
                }
                burning = spread | 1 << spark;
            }
            return NONE;
        }

        int turnOf(int row, int n, int room) {
            int burning = 0;
            for (int turn = 1; turn <= MOST_SPARKS + MOST_ROOMS; turn++) {
                burning |= rooms.besideAny(burning);
                if (turn <= n) {
                    burning |= 1 << told(row, turn - 1);
                }
                if (has(burning, room)) {
                    return turn;
                }
            }
            return NONE;
        }

        static int told(int row, int i) {
            return row >> (4 * i) & 15;
        }

        private int leastSpark(int spread, int left) {
            for (int r = 0; r < rooms.howMany(); r++) {
                if (!has(spread, r) && turnsFrom(spread | 1 << r, 1) == left) {
                    return r;
                }
            }
            return NONE;
        }

        private int turnsFrom(int burning, int depth) {
            if (burning == rooms.all() || depth > MOST_ROOMS) {
                return 0;
            }
            int known = memo.recall(burning);
            if (known != NONE) {
                return known;
            }
            int spread = burning | rooms.besideAny(burning);
            int turns = spread == rooms.all() ? 1 : 1 + turnsByBest(spread, depth);
            memo.keep(burning, turns);
            return turns;
        }

        private int turnsByBest(int spread, int depth) {
            int best = TOO_MANY;
            for (int r = 0; r < rooms.howMany(); r++) {
                if (!has(spread, r)) {
                    best = Math.min(best, turnsFrom(spread | 1 << r, depth + 1));
                }
            }
            return best;
        }
    }

    /** Rooms that catch from so many others as they are thick. */
    private static final class Catching {
        private final Rooms rooms;
        private final Sets sets;
        private final int[] turns = new int[MOST_ROOMS];

        Catching(Rooms rooms, Sets sets) {
            this.rooms = rooms;
            this.sets = sets;
        }

        int burnFrom(int set, int wet, int limit) {
            for (int r = 0; r < MOST_ROOMS; r++) {
                turns[r] = has(set, r) ? 0 : NONE;
            }
            int burning = set;
            for (int turn = 1; turn <= limit; turn++) {
                int next = catchOnce(burning, wet, turn);
                if (next == burning) {
                    return burning;
                }
                burning = next;
            }
            return burning;
        }

        /** Of what burnFrom told last. */
        int turnOf(int room) {
            return rooms.isRoom(room) ? turns[room] : NONE;
        }

        int leastSeeds(int limit) {
            for (int i = 0; i < MOST_SETS; i++) {
                if (isSeeds(sets.get(i), limit)) {
                    return sets.get(i);
                }
            }
            return rooms.all();
        }

        int leastSeedSets(int limit) {
            int size = Integer.bitCount(leastSeeds(limit));
            int found = 0;
            int end = sets.startOf(size + 1);
            for (int i = sets.startOf(size); i < end; i++) {
                if (isSeeds(sets.get(i), limit)) {
                    found++;
                }
            }
            return found;
        }

        int leastWetAhead(int set, int k) {
            int free = rooms.all() & ~set;
            for (int i = 0; i < MOST_SETS; i++) {
                int wet = sets.get(i);
                if ((wet & ~free) == 0 && rooms.folkOf(burnFrom(set, wet, MOST_TURNS)) <= k) {
                    return wet;
                }
            }
            return NONE;
        }

        private boolean isSeeds(int set, int limit) {
            return rooms.isSet(set) && burnFrom(set, 0, limit) == rooms.all();
        }

        private int catchOnce(int burning, int wet, int turn) {
            int next = burning;
            for (int r = 0; r < rooms.howMany(); r++) {
                if (!has(burning | wet, r) && Integer.bitCount(rooms.at(r) & burning) >= rooms.thick(r)) {
                    next |= 1 << r;
                    turns[r] = turn;
                }
            }
            return next;
        }
    }

    /** Rooms that force the one that is left beside them. */
    private static final class Forcing {
        private final Rooms rooms;
        private final Sets sets;
        private final int[] rounds = new int[MOST_ROOMS];
        private final int[] forcedBy = new int[MOST_ROOMS];
        private int lastRound;

        Forcing(Rooms rooms, Sets sets) {
            this.rooms = rooms;
            this.sets = sets;
        }

        int burnFrom(int set) {
            for (int r = 0; r < MOST_ROOMS; r++) {
                rounds[r] = has(set, r) ? 0 : NONE;
                forcedBy[r] = NONE;
            }
            lastRound = 0;
            int burning = set;
            for (int round = 1; round <= MOST_ROOMS; round++) {
                int next = forceOnce(burning, round);
                if (next == burning) {
                    return burning;
                }
                burning = next;
                lastRound = round;
            }
            return burning;
        }

        /** Of what burnFrom told last, as forcerOf too. */
        int roundOf(int room) {
            return rooms.isRoom(room) ? rounds[room] : NONE;
        }

        int forcerOf(int room) {
            return rooms.isRoom(room) ? forcedBy[room] : NONE;
        }

        int leastForcers() {
            for (int i = 0; i < MOST_SETS; i++) {
                if (forcesAll(sets.get(i))) {
                    return sets.get(i);
                }
            }
            return rooms.all();
        }

        int leastForcerSets() {
            int size = Integer.bitCount(leastForcers());
            int found = 0;
            int end = sets.startOf(size + 1);
            for (int i = sets.startOf(size); i < end; i++) {
                if (forcesAll(sets.get(i))) {
                    found++;
                }
            }
            return found;
        }

        int cheapest() {
            int best = rooms.all();
            int cost = TOO_MANY;
            for (int set = 0; set <= rooms.all(); set++) {
                // Rooms that cost as much by themselves need not be tried.
                int other = Integer.bitCount(set) < cost ? costOf(set) : TOO_MANY;
                if (other < cost) {
                    best = set;
                    cost = other;
                }
            }
            return best;
        }

        int costOf(int set) {
            return forcesAll(set) ? Integer.bitCount(set) + lastRound : TOO_MANY;
        }

        private boolean forcesAll(int set) {
            return rooms.isSet(set) && burnFrom(set) == rooms.all();
        }

        private int forceOnce(int burning, int round) {
            int next = burning;
            for (int r = 0; r < rooms.howMany(); r++) {
                int left = has(burning, r) ? rooms.beside(r) & ~burning : 0;
                // A room that a lesser one forces already in this round keeps that one.
                if (Integer.bitCount(left) == 1 && (left & next) == 0) {
                    int room = Integer.numberOfTrailingZeros(left);
                    if (rooms.isRoom(room)) {
                        rounds[room] = round;
                        forcedBy[room] = r;
                    }
                    next |= left;
                }
            }
            return next;
        }
    }

    /** Ways that carry by chances, exactly. */
    private static final class Chances {
        private final Rooms rooms;
        private final int[] from = new int[MOST_CARRYING];
        private final int[] to = new int[MOST_CARRYING];
        private int ways;

        Chances(Rooms rooms) {
            this.rooms = rooms;
        }

        long reach(int a, int b, int part) {
            return partOfSum(a, b, part);
        }

        long meanFolk(int a, int part) {
            return partOfSum(a, NONE, part);
        }

        private long partOfSum(int a, int goal, int part) {
            listWays();
            long below = 1;
            for (int i = 0; i < ways; i++) {
                below *= TENTHS;
            }
            long above = sumFrom(1 << a, 0, below, goal, 0);
            long common = commonDivisor(below, above);
            if (common == 0) {
                return 0;
            }
            return (part == 0 ? above : below) / common;
        }

        private void listWays() {
            ways = 0;
            for (int a = 0; a < rooms.howMany(); a++) {
                for (int b = 0; b < rooms.howMany(); b++) {
                    if (has(rooms.beside(a), b) && ways < MOST_CARRYING) {
                        from[ways] = a;
                        to[ways] = b;
                        ways++;
                    }
                }
            }
        }

        /**
         * The worth of what burns in the end, over all cases. The weight is that of the cases that are still open, as a
         * part of 10 to the power of all ways: it has a divisor 10 for each way that is not tried, so nothing is lost.
         */
        private long sumFrom(int burning, int tried, long weight, int goal, int depth) {
            if (weight == 0) {
                return 0;
            }
            int way = openWay(burning, tried);
            if (way == NONE || depth >= MOST_CARRYING) {
                return weight * worth(burning, goal);
            }
            int triedThen = tried | 1 << way;
            long tenth = weight / TENTHS;
            return sumFrom(burning | 1 << to[way], triedThen, tenth * rooms.chance(), goal, depth + 1)
                    + sumFrom(burning, triedThen, tenth * (TENTHS - rooms.chance()), goal, depth + 1);
        }

        /** A way that may still change what burns; all others carry to no end, so their chances need no telling apart. */
        private int openWay(int burning, int tried) {
            for (int i = 0; i < ways; i++) {
                if (!has(tried, i) && has(burning, from[i]) && !has(burning, to[i])) {
                    return i;
                }
            }
            return NONE;
        }

        private int worth(int burning, int goal) {
            if (goal == NONE) {
                return rooms.folkOf(burning);
            }
            return has(burning, goal) ? 1 : 0;
        }

        private static long commonDivisor(long a, long b) {
            long great = a;
            long small = b;
            for (int i = 0; i < 200 && small != 0; i++) {
                long rest = great % small;
                great = small;
                small = rest;
            }
            return great;
        }
    }

    /** Tokens that never come back, and pairs. */
    private static final class Walks {
        private final Rooms rooms;
        private final Memo memo;

        Walks(Rooms rooms, Memo memo) {
            this.rooms = rooms;
            this.memo = memo;
        }

        int length(int room, int been) {
            memo.startSearch();
            return goesFrom(room, been | 1 << room, false, 0);
        }

        int alone(int room, int been) {
            memo.startSearch();
            return goesFrom(room, been | 1 << room, true, 0);
        }

        int step(int room, int been) {
            int goes = length(room, been);
            int steps = rooms.beside(room) & ~(been | 1 << room);
            for (int r = 0; r < rooms.howMany(); r++) {
                if (has(steps, r) && goesFrom(r, been | 1 << room | 1 << r, false, 1) == goes - 1) {
                    return r;
                }
            }
            return NONE;
        }

        int mostPairs() {
            memo.startSearch();
            return pairsAmong(rooms.all(), 0);
        }

        private int goesFrom(int room, int been, boolean alone, int depth) {
            int steps = rooms.beside(room) & ~been;
            if (steps == 0 || depth > MOST_ROOMS) {
                return 0;
            }
            int cell = been * MOST_ROOMS + room;
            int known = memo.recall(cell);
            if (known != NONE) {
                return known;
            }
            int soonest = TOO_MANY;
            int latest = 0;
            for (int r = 0; r < rooms.howMany(); r++) {
                if (has(steps, r)) {
                    int goes = 1 + goesFrom(r, been | 1 << r, alone, depth + 1);
                    latest = Math.max(latest, goes);
                    soonest = (goes & 1) == 1 ? Math.min(soonest, goes) : soonest;
                }
            }
            // Odd goes are won by who goes now, and he takes the soonest of them; else he holds out as long as he can.
            int goes = alone || soonest == TOO_MANY ? latest : soonest;
            memo.keep(cell, goes);
            return goes;
        }

        private int pairsAmong(int set, int depth) {
            if (set == 0 || depth > MOST_ROOMS) {
                return 0;
            }
            int known = memo.recall(set);
            if (known != NONE) {
                return known;
            }
            int one = Integer.numberOfTrailingZeros(set);
            int rest = set & ~(1 << one);
            int best = pairsAmong(rest, depth + 1);
            for (int r = 0; r < rooms.howMany(); r++) {
                if (has(rooms.beside(one) & rest, r)) {
                    best = Math.max(best, 1 + pairsAmong(rest & ~(1 << r), depth + 1));
                }
            }
            memo.keep(set, best);
            return best;
        }
    }
}
