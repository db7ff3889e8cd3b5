import java.util.function.ToLongFunction;

/** The promises' own sentences: sparks, catching, forcing, chances, tokens; and what is said of all refused calls. */
final class QuestionBoundaries {
    private static final int NONE = -1, UNKNOWN = -2, OUTSIDE = -3, NOT = -4, FULL = -5;

    private final Sentences doc;

    QuestionBoundaries(Sentences doc) {
        this.doc = doc;
    }

    void run() {
        sparks();
        when();
        whenRefused();
        caught();
        seeds();
        ahead();
        forced();
        forcedRefused();
        forcers();
        carried();
        carriedRefused();
        mean();
        token();
        tokenRefused();
        pairs();
        count();
        refusals();
        manyCalls();
        interfaceLines();
    }

    private void refused(String call, long want, ToLongFunction<WettedNet> ask) {
        Twins.refused(doc, call, want, Twins::midst, ask);
    }

    private void refusedQuietly(String call, long want, ToLongFunction<WettedNet> ask) {
        Twins.refused(doc, call, want, Twins::quiet, ask);
    }

    // ---- sparks

    private void sparks() {
        doc.says("Promise 12", "`int sparks(int i)`: FEWEST SPARKS: TURNS (i -1), or where the i-th SPARK is thrown; NONE: there are not"
                + " so many.");
        WettedNet path = Nets.of(Nets.PATH5);
        int[] want = {3, 0, 2, 4, NONE, NONE};
        for (int i = -1; i < 5; i++) {
            doc.due("i " + i, want[i + 1], path.sparks(i));
        }
        doc.due("the last of nine", 8, Nets.of(Nets.LONE9).sparks(8));
        doc.due("one more than nine", NONE, Nets.of(Nets.LONE9).sparks(9));
        for (int far : new int[] {10, 32, 512, 1 << 16, Integer.MAX_VALUE}) {
            doc.due("i " + far, NONE, path.sparks(far));
        }
        doc.says("Promise 12", "OUTSIDE: i below -1.");
        refused("i -2", OUTSIDE, x -> x.sparks(-2));
        refused("i -1000", OUTSIDE, x -> x.sparks(-1000));
        refused("the least i", OUTSIDE, x -> x.sparks(Integer.MIN_VALUE));
    }

    private void when() {
        doc.says("Promise 13", "`int when(int row, int n, int room)`: In which TURN a ROOM burns by a ROW of n SPARKS (1 .. 8; SPARK i row"
                + " >> 4 i & 15); NONE.");
        WettedNet lone = Nets.of(Nets.LONE9);
        for (int n = 1; n <= 8; n++) {
            doc.due("the last of " + n, n, lone.when(0x87654321, n, n));
            doc.due("none of " + n, NONE, lone.when(0x87654321, n, (n + 1) % 9));
        }
        // A row whose eighth SPARK has the sign's bit is a number below 0.
        doc.due("the sign's SPARK", 8, lone.when(0x80000000, 8, 8));
        doc.due("without it", NONE, lone.when(0x80000000, 7, 8));
        doc.due("the same SPARK again and again", 1, lone.when(0, 8, 0));
        doc.due("what stands behind n SPARKS is none of them", 1, lone.when(0xFFFFFFF0, 1, 0));
        doc.due("nor is the sign's", 7, lone.when(0xF7654321, 7, 7));
    }

    private void whenRefused() {
        doc.says("Promise 13", "UNKNOWN: the ROOM, a SPARK's; OUTSIDE: n (ahead of SPARKS).");
        refused("the room behind the last", UNKNOWN, x -> x.when(0, 1, 5));
        refused("NONE is no room here", UNKNOWN, x -> x.when(0, 1, NONE));
        refused("a room like 0 by its last bits", UNKNOWN, x -> x.when(0, 1, 32));
        refused("the first SPARK", UNKNOWN, x -> x.when(0x05, 1, 0));
        refused("the second SPARK", UNKNOWN, x -> x.when(0x50, 2, 0));
        refused("the eighth SPARK", UNKNOWN, x -> x.when(0x50000000, 8, 0));
        refused("the eighth SPARK, by the sign's bit", UNKNOWN, x -> x.when(0xF0000000, 8, 0));
        refused("a SPARK behind the TURN that is asked for", UNKNOWN, x -> x.when(0xF0, 2, 0));
        refused("n 0", OUTSIDE, x -> x.when(0, 0, 0));
        refused("n 9", OUTSIDE, x -> x.when(0, 9, 0));
        refused("n ahead of SPARKS", OUTSIDE, x -> x.when(0xF, 9, 0));
        refused("n 0 ahead of SPARKS", OUTSIDE, x -> x.when(0xF, 0, 0));
        refused("the room ahead of n", UNKNOWN, x -> x.when(0, 9, 5));
        for (int far : Nets.FAR) {
            refused("room " + far, UNKNOWN, x -> x.when(0, 1, far));
            refused("n " + far, OUTSIDE, x -> x.when(0, far, 0));
        }
    }

    // ---- catching, forcing

    private void caught() {
        doc.says("Promise 14", "`int caught(int set, int room)`: CATCHING: what burns in the end (room NONE), or the TURN of a ROOM; NONE.");
        WettedNet ways = Nets.of(Nets.WAYS9);
        doc.due("room NONE", 511, ways.caught(1, NONE));
        doc.due("the last", 8, ways.caught(1, 8));
        doc.due("of the set", 0, ways.caught(256, 8));
        doc.due("NONE", NONE, ways.caught(256, 0));
        doc.due("an empty set", 0, ways.caught(0, NONE));
        doc.due("all", 511, ways.caught(511, NONE));
        doc.says("Promise 14", "UNKNOWN; OUTSIDE.");
        refused("the room behind the last", UNKNOWN, x -> x.caught(0, 5));
        refused("one below NONE", UNKNOWN, x -> x.caught(0, -2));
        refused("the set", OUTSIDE, x -> x.caught(32, 0));
        refused("the set with room NONE", OUTSIDE, x -> x.caught(32, NONE));
        refused("the set below", OUTSIDE, x -> x.caught(-1, NONE));
        refused("UNKNOWN ahead of OUTSIDE", UNKNOWN, x -> x.caught(32, 5));
        for (int far : Nets.FAR) {
            refused("room " + far, UNKNOWN, x -> x.caught(0, far));
            refused("set " + far, OUTSIDE, x -> x.caught(far, 0));
        }
    }

    private void seeds() {
        doc.says("Promise 15", "`int seeds(int t, int what)`: SEEDS: how many ROOMS (what 0), the set (1), how many such sets (2).");
        WettedNet path = Nets.of(Nets.PATH5);
        int[][] want = {{2, 9, 3}, {1, 4, 1}, {1, 2, 3}, {1, 1, 5}, {1, 1, 5}, {1, 1, 5}, {1, 1, 5}, {1, 1, 5}, {1, 1, 5}};
        for (int t = 1; t <= 9; t++) {
            for (int what = 0; what <= 2; what++) {
                doc.due("t " + t + ", what " + what, want[t - 1][what], path.seeds(t, what));
            }
        }
        doc.says("Promise 15", "OUTSIDE.");
        refused("t 0", OUTSIDE, x -> x.seeds(0, 0));
        refused("t 10", OUTSIDE, x -> x.seeds(10, 0));
        refused("t -1", OUTSIDE, x -> x.seeds(-1, 0));
        refused("what 3", OUTSIDE, x -> x.seeds(1, 3));
        refused("what -1", OUTSIDE, x -> x.seeds(9, -1));
        for (int far : Nets.FAR) {
            refused("t " + far, OUTSIDE, x -> x.seeds(far, 0));
            refused("what " + far, OUTSIDE, x -> x.seeds(1, far));
        }
    }

    private void ahead() {
        doc.says("Promise 16", "`int ahead(int set, int k)`: AHEAD; NONE.");
        WettedNet path = Nets.of(Nets.PATH9);
        doc.due("no room", 0, path.ahead(1, 9));
        doc.due("a room", 2, path.ahead(1, 8));
        doc.due("NONE", NONE, path.ahead(1, 0));
        doc.says("Promise 16", "OUTSIDE: set, k (0 .. 999).");
        WettedNet one = new WettedNet();
        doc.due("k 0", 0, one.ahead(0, 0));
        doc.due("k 999", 0, one.ahead(1, 999));
        refused("k -1", OUTSIDE, x -> x.ahead(0, -1));
        refused("k 1000", OUTSIDE, x -> x.ahead(0, 1000));
        refused("set", OUTSIDE, x -> x.ahead(32, 0));
        refused("set below", OUTSIDE, x -> x.ahead(-1, 0));
        for (int far : Nets.FAR) {
            refused("set " + far, OUTSIDE, x -> x.ahead(far, 0));
            refused("k " + far, OUTSIDE, x -> x.ahead(1, far));
        }
    }

    private void forced() {
        doc.says("Promise 17", "`int forced(int set, int room, int what)`: FORCING: what burns in the end (room NONE), or of a ROOM its ROUND"
                + " (what 0), by which (1); NONE.");
        WettedNet path = Nets.of(Nets.PATH5);
        doc.due("room NONE", 31, path.forced(1, NONE, 0));
        doc.due("its ROUND", 4, path.forced(1, 4, 0));
        doc.due("by which", 3, path.forced(1, 4, 1));
        doc.due("by room 0", 0, path.forced(1, 1, 1));
        doc.due("ROUND NONE", NONE, path.forced(4, 0, 0));
        doc.due("by NONE", NONE, path.forced(4, 0, 1));
        doc.due("of the set by NONE", NONE, path.forced(4, 2, 1));
        doc.says("Promise 17", "(What does not matter for room NONE.)");
        for (int what : new int[] {-1, 0, 1, 2, 3, 9}) {
            doc.due("what " + what, 31, path.forced(1, NONE, what));
        }
        for (int far : Nets.FAR) {
            doc.due("what " + far, 31, path.forced(1, NONE, far));
        }
    }

    private void forcedRefused() {
        doc.says("Promise 17", "UNKNOWN; OUTSIDE.");
        refused("the room behind the last", UNKNOWN, x -> x.forced(0, 5, 0));
        refused("one below NONE", UNKNOWN, x -> x.forced(0, -2, 0));
        refused("the set", OUTSIDE, x -> x.forced(32, 0, 0));
        refused("the set with room NONE", OUTSIDE, x -> x.forced(32, NONE, 0));
        refused("the set below", OUTSIDE, x -> x.forced(-1, NONE, 0));
        refused("what 2", OUTSIDE, x -> x.forced(1, 0, 2));
        refused("what -1", OUTSIDE, x -> x.forced(1, 0, -1));
        refused("UNKNOWN ahead of OUTSIDE", UNKNOWN, x -> x.forced(32, 5, 0));
        refused("UNKNOWN ahead of OUTSIDE", UNKNOWN, x -> x.forced(0, 5, 2));
        for (int far : Nets.FAR) {
            refused("room " + far, UNKNOWN, x -> x.forced(0, far, 0));
            refused("set " + far, OUTSIDE, x -> x.forced(far, 0, 0));
            refused("what " + far, OUTSIDE, x -> x.forced(0, 0, far));
        }
    }

    private void forcers() {
        doc.says("Promise 18", "`int forcers(int what)`: FORCERS: how many ROOMS (what 0), the set (1), how many such sets (2); CHEAP: ROOMS"
                + " and ROUNDS (3), the set (4).");
        int[] path = {1, 1, 2, 4, 6};
        int[] lone = {9, 511, 1, 9, 511};
        int[] one = {1, 1, 1, 1, 1};
        for (int what = 0; what <= 4; what++) {
            doc.due("a path, what " + what, path[what], Nets.of(Nets.PATH5).forcers(what));
            doc.due("nine rooms, what " + what, lone[what], Nets.of(Nets.LONE9).forcers(what));
            doc.due("one room, what " + what, one[what], new WettedNet().forcers(what));
        }
        doc.says("Promise 18", "OUTSIDE.");
        refused("what 5", OUTSIDE, x -> x.forcers(5));
        refused("what -1", OUTSIDE, x -> x.forcers(-1));
        for (int far : Nets.FAR) {
            refused("what " + far, OUTSIDE, x -> x.forcers(far));
        }
    }

    // ---- chances, tokens

    private void carried() {
        doc.says("Promise 19", "`long carried(int a, int b, int part)`: CARRIED from a to b (1, if they are one).");
        WettedNet x = Nets.of("rooms 9;way 0 8;chance 3;folk 0 0");
        doc.due("above", 3, x.carried(0, 8, 0));
        doc.due("below", 10, x.carried(0, 8, 1));
        doc.due("not back", 0, x.carried(8, 0, 0));
        doc.due("not back, below", 1, x.carried(8, 0, 1));
        for (int r = 0; r < 9; r++) {
            doc.due("one room, above", 1, x.carried(r, r, 0));
            doc.due("one room, below", 1, x.carried(r, r, 1));
        }
        WettedNet ring = Nets.of("rooms 3;way 0 1;way 1 2;way 2 0;chance 1");
        doc.due("one room in a ring", 1, ring.carried(1, 1, 0));
        doc.due("round the ring", 100, ring.carried(1, 0, 1));
    }

    private void carriedRefused() {
        doc.says("Promise 19", "UNKNOWN; OUTSIDE; NOT: there are more than 10 WAYS.");
        refusedQuietly("a behind the last", UNKNOWN, x -> x.carried(5, 0, 0));
        refusedQuietly("b behind the last", UNKNOWN, x -> x.carried(0, 5, 0));
        refusedQuietly("a NONE", UNKNOWN, x -> x.carried(NONE, 0, 0));
        refusedQuietly("b NONE", UNKNOWN, x -> x.carried(0, NONE, 0));
        refusedQuietly("both, though they are one", UNKNOWN, x -> x.carried(5, 5, 0));
        refusedQuietly("part 2", OUTSIDE, x -> x.carried(0, 1, 2));
        refusedQuietly("part -1", OUTSIDE, x -> x.carried(0, 1, -1));
        refusedQuietly("part 2 of one room", OUTSIDE, x -> x.carried(1, 1, 2));
        refusedQuietly("UNKNOWN ahead of OUTSIDE", UNKNOWN, x -> x.carried(0, 5, 2));
        doc.due("ten WAYS", 1, Twins.quiet().carried(4, 4, 0));
        refused("twelve WAYS", NOT, x -> x.carried(0, 1, 0));
        refused("twelve WAYS, below", NOT, x -> x.carried(0, 1, 1));
        refused("twelve WAYS, one room", NOT, x -> x.carried(1, 1, 0));
        refused("OUTSIDE ahead of NOT", OUTSIDE, x -> x.carried(0, 1, 2));
        refused("UNKNOWN ahead of NOT", UNKNOWN, x -> x.carried(5, 1, 0));
        doc.due("eleven WAYS", NOT, Nets.of(Nets.FAN7, "way 6 0").carried(0, 6, 0));
        for (int far : Nets.FAR) {
            refusedQuietly("a " + far, UNKNOWN, x -> x.carried(far, 0, 0));
            refusedQuietly("b " + far, UNKNOWN, x -> x.carried(0, far, 0));
            refusedQuietly("part " + far, OUTSIDE, x -> x.carried(0, 0, far));
        }
    }

    private void mean() {
        doc.says("Promise 20", "`long mean(int a, int part)`: CARRIED: the mean FOLK that is lost, a's with it.");
        WettedNet x = Nets.of("rooms 9;way 0 8;chance 5;folk 0 99;folk 8 0");
        doc.due("a's alone", 99, x.mean(0, 0));
        doc.due("a's alone, below", 1, x.mean(0, 1));
        doc.due("none of it", 0, x.mean(8, 0));
        doc.due("none of it, below", 1, x.mean(8, 1));
        Nets.tell(x, "folk 0 0;folk 8 99");
        doc.due("half of 99", 99, x.mean(0, 0));
        doc.due("half of 99, below", 2, x.mean(0, 1));
        doc.says("Promise 20", "UNKNOWN; OUTSIDE; NOT.");
        refusedQuietly("a behind the last", UNKNOWN, y -> y.mean(5, 0));
        refusedQuietly("a NONE", UNKNOWN, y -> y.mean(NONE, 0));
        refusedQuietly("part 2", OUTSIDE, y -> y.mean(0, 2));
        refusedQuietly("part -1", OUTSIDE, y -> y.mean(0, -1));
        refusedQuietly("UNKNOWN ahead of OUTSIDE", UNKNOWN, y -> y.mean(5, 2));
        refused("twelve WAYS", NOT, y -> y.mean(0, 0));
        refused("OUTSIDE ahead of NOT", OUTSIDE, y -> y.mean(0, 2));
        refused("UNKNOWN ahead of NOT", UNKNOWN, y -> y.mean(5, 0));
        doc.due("ten WAYS", 1, Nets.of(Nets.FAN7).mean(6, 0));
        doc.due("eleven WAYS", NOT, Nets.of(Nets.FAN7, "way 6 0").mean(6, 0));
        for (int far : Nets.FAR) {
            refusedQuietly("a " + far, UNKNOWN, y -> y.mean(far, 0));
            refusedQuietly("part " + far, OUTSIDE, y -> y.mean(0, far));
        }
    }

    private void token() {
        doc.says("Promise 21", "`int token(int room, int been, int what)`: A TOKEN in a ROOM, where it was already by bits (its own ROOM does"
                + " not matter): 1: who goes first wins, 0 (what 0); LENGTH (1); STEP (2; NONE: there is none); ALONE (3).");
        WettedNet path = Nets.of(Nets.PATH5);
        int[][] want = {{0, 4, 1, 4}, {1, 1, 0, 3}, {0, 2, 1, 2}, {1, 1, 4, 3}, {0, 4, 3, 4}};
        for (int r = 0; r < 5; r++) {
            for (int what = 0; what <= 3; what++) {
                doc.due("room " + r + ", what " + what, want[r][what], path.token(r, 0, what));
                doc.due("room " + r + ", its own too, what " + what, want[r][what], path.token(r, 1 << r, what));
            }
        }
        int[] nowhere = {0, 0, NONE, 0};
        for (int what = 0; what <= 3; what++) {
            doc.due("everywhere been, what " + what, nowhere[what], path.token(2, 31, what));
            doc.due("everywhere but here, what " + what, nowhere[what], path.token(2, 27, what));
        }
        doc.due("to room 0", 0, path.token(1, 4, 2));
    }

    private void tokenRefused() {
        doc.says("Promise 21", "UNKNOWN; OUTSIDE.");
        refused("the room behind the last", UNKNOWN, x -> x.token(5, 0, 0));
        refused("NONE is no room here", UNKNOWN, x -> x.token(NONE, 0, 0));
        refused("a room like 0 by its last bits", UNKNOWN, x -> x.token(32, 0, 0));
        refused("been behind the last", OUTSIDE, x -> x.token(0, 32, 0));
        refused("been below", OUTSIDE, x -> x.token(0, -1, 0));
        refused("what 4", OUTSIDE, x -> x.token(0, 0, 4));
        refused("what -1", OUTSIDE, x -> x.token(0, 0, -1));
        refused("UNKNOWN ahead of OUTSIDE", UNKNOWN, x -> x.token(5, 32, 4));
        for (int far : Nets.FAR) {
            refused("room " + far, UNKNOWN, x -> x.token(far, 0, 0));
            refused("been " + far, OUTSIDE, x -> x.token(0, far, 0));
            refused("what " + far, OUTSIDE, x -> x.token(0, 0, far));
        }
    }

    private void pairs() {
        doc.says("Promise 22", "`int pairs()`: PAIRS.");
        doc.due("none", 0, new WettedNet().pairs());
        doc.due("the most", 4, Nets.of(Nets.PATH9).pairs());
        doc.says("Promise 22", "NOT: the net is not EVEN.");
        refused("uneven", NOT, x -> x.pairs());
        refusedQuietly("uneven too", NOT, x -> x.pairs());
        WettedNet full = Nets.full(9);
        Nets.tell(full, "shut 0 1;way 0 1");
        doc.due("but for one WAY", NOT, full.pairs());
        Nets.tell(full, "way 1 0");
        doc.due("with it", 4, full.pairs());
    }

    private void count() {
        doc.says("Promise 23", "`int count(int what)`: 0 ROOMS, 1 WAYS, 2 bytes of THE TEXT, 3 HANDS, 4 CHANCE, 5 FOLK of all, 6 1 EVEN,"
                + " 0 not.");
        WettedNet full = Nets.full(9);
        Nets.tell(full, Nets.forEach("folk", 9, 99) + ";hands 9;chance 1");
        Check.put(full, " ".repeat(200));
        int[] most = {9, 72, 200, 9, 1, 891, 1};
        int[] first = {1, 0, 0, 1, 10, 1, 1};
        int[] midst = {5, 12, 25, 1, 3, 8, 0};
        for (int what = 0; what <= 6; what++) {
            doc.due("the most, what " + what, most[what], full.count(what));
            doc.due("at first, what " + what, first[what], new WettedNet().count(what));
            doc.due("in the midst, what " + what, midst[what], Twins.midst().count(what));
        }
        doc.says("Promise 23", "OUTSIDE.");
        refused("what 7", OUTSIDE, x -> x.count(7));
        refused("what -1", OUTSIDE, x -> x.count(-1));
        for (int far : Nets.FAR) {
            refused("what " + far, OUTSIDE, x -> x.count(far));
        }
    }

    // ---- all calls

    private void refusals() {
        doc.says("Terms", "Refused, and nothing changes: UNKNOWN (no such ROOM), OUTSIDE (another number is not as told; bits of no ROOMS),"
                + " NOT (not now: as told), FULL: the first of these that fits.");
        refused("UNKNOWN and OUTSIDE: room", UNKNOWN, x -> x.room(9, 9));
        refused("UNKNOWN and OUTSIDE: when", UNKNOWN, x -> x.when(0xF, 9, 9));
        refused("UNKNOWN and OUTSIDE: caught", UNKNOWN, x -> x.caught(99, 9));
        refused("UNKNOWN and OUTSIDE: forced", UNKNOWN, x -> x.forced(99, 9, 9));
        refused("UNKNOWN and OUTSIDE: token", UNKNOWN, x -> x.token(9, 99, 9));
        refused("UNKNOWN, OUTSIDE and NOT: carried", UNKNOWN, x -> x.carried(9, 9, 9));
        refused("UNKNOWN, OUTSIDE and NOT: mean", UNKNOWN, x -> x.mean(9, 9));
        refused("OUTSIDE and NOT: carried", OUTSIDE, x -> x.carried(0, 4, 9));
        refused("OUTSIDE and NOT: mean", OUTSIDE, x -> x.mean(0, 9));
        refusedQuietly("OUTSIDE and NOT: wets", OUTSIDE, x -> x.wets(99));
        refusedQuietly("OUTSIDE and NOT: play", OUTSIDE, x -> x.play(9));
        Twins.refused(doc, "OUTSIDE and FULL: write", OUTSIDE, () -> Twins.with(200), x -> x.write(0, 9));
        Twins.refused(doc, "FULL: write", FULL, () -> Twins.with(200), x -> x.write(0, 8));
        Twins.refused(doc, "NOT: net", NOT, Twins::faulty, x -> x.net());
        refused("NOT: pairs", NOT, x -> x.pairs());
        for (int bits : new int[] {32, 33, 64, 512, 1 << 30, 1 << 31, -1, -32}) {
            refused("bits of no ROOMS: least " + bits, OUTSIDE, x -> x.least(bits, 0));
            refused("bits of no ROOMS: hold " + bits, OUTSIDE, x -> x.hold(bits, 0));
            refused("bits of no ROOMS: begin " + bits, OUTSIDE, x -> x.begin(bits));
            refused("bits of no ROOMS: wets " + bits, OUTSIDE, x -> x.wets(bits));
            refused("bits of no ROOMS: caught " + bits, OUTSIDE, x -> x.caught(bits, NONE));
            refused("bits of no ROOMS: ahead " + bits, OUTSIDE, x -> x.ahead(bits, 0));
            refused("bits of no ROOMS: forced " + bits, OUTSIDE, x -> x.forced(bits, NONE, 0));
            refused("bits of no ROOMS: token " + bits, OUTSIDE, x -> x.token(0, bits, 0));
        }
        questionsChangeNothing();
    }

    /** No sentence says that a question changes anything; the searches behind them must not either. */
    private void questionsChangeNothing() {
        refused("least", 0, x -> x.least(0, 0));
        refused("first wets", 5, x -> x.least(0, 2));
        refused("hold", NONE, x -> x.hold(31, 0));
        refused("sparks", NONE, x -> x.sparks(9));
        refused("when", 1, x -> x.when(4, 1, 4));
        refused("caught", 31, x -> x.caught(31, NONE));
        refused("seeds", 1, x -> x.seeds(1, 0) > 0 ? 1 : 0);
        refused("ahead", 0, x -> x.ahead(0, 0));
        refused("forced", 31, x -> x.forced(31, NONE, 0));
        refused("forcers", 1, x -> x.forcers(4) > 0 ? 1 : 0);
        refusedQuietly("carried", 1, x -> x.carried(0, 0, 0));
        refusedQuietly("mean", 1, x -> x.mean(0, 0) > 0 ? 1 : 0);
        refused("token", 0, x -> x.token(0, 31, 1));
        refused("fault", NONE, x -> x.fault());
        Twins.refused(doc, "fault of a faulty text", 39, Twins::faulty, x -> x.fault());
    }

    private void manyCalls() {
        doc.says("What it is", "An object is used for at most 512 calls after it has been made;");
        WettedNet x = new WettedNet();
        Check.put(x, Nets.PATH5);
        x.net();
        int made = (Nets.PATH5.length() + 7) / 8 + 1;
        int last = made;
        for (int call = made + 1; call + 7 < 512; call += 8) {
            doc.due("from call " + call + ": hold", 2, x.hold(4, 1));
            doc.due("least", 2, x.least(4, 0));
            doc.due("sparks", 2, x.sparks(1));
            doc.due("begin", 2, x.begin(4));
            doc.due("token", 2, x.token(2, 0, 1));
            doc.due("pairs", 2, x.pairs());
            doc.due("forcers", 2, x.forcers(2));
            doc.due("token alone", 2, x.token(2, 0, 3));
            last = call + 7;
        }
        for (int call = last + 1; call <= 512; call++) {
            doc.due("call " + call, 2, x.hold(4, 1));
        }
    }

    private void interfaceLines() {
        String terms = "Terms";
        doc.namesNothing(terms, "Ahead of the calls `write`, `erase`, `fault`, `net`, `room` the interface says: ---- the net.");
        doc.namesNothing(terms, "Ahead of the calls `least`, `hold`, `begin`, `wets`, `play` the interface says: ---- fires.");
        doc.namesNothing(terms, "Ahead of the calls `sparks`, `when` the interface says: ---- sparks.");
        doc.namesNothing(terms, "Ahead of the calls `caught`, `seeds`, `ahead`, `forced`, `forcers` the interface says: ---- catching, forcing.");
        doc.namesNothing(terms, "Ahead of the calls `carried`, `mean`, `token`, `pairs`, `count` the interface says: ---- chances, tokens.");
    }
}
