import java.util.function.ToLongFunction;

/** The promises' own sentences: a new object, the net, fires. */
final class CallBoundaries {
    private static final int NONE = -1, UNKNOWN = -2, OUTSIDE = -3, NOT = -4, FULL = -5;
    private static final long BLANKS = 0x2020202020202020L;

    private final Sentences doc;

    CallBoundaries(Sentences doc) {
        this.doc = doc;
    }

    void run() {
        aNewObject();
        write();
        writeRefused();
        erase();
        fault();
        net();
        netRefused();
        room();
        roomRefused();
        least();
        leastRefused();
        hold();
        begin();
        wets();
        wetsRefused();
        play();
        playRefused();
    }

    private void refused(String call, long want, ToLongFunction<WettedNet> ask) {
        Twins.refused(doc, call, want, Twins::midst, ask);
    }

    // ---- the net

    private void aNewObject() {
        doc.says("Promise 1", "`WettedNet()`: One ROOM.");
        WettedNet x = new WettedNet();
        int[] counts = {1, 0, 0, 1, 10, 1, 1};
        for (int what = 0; what < counts.length; what++) {
            doc.due("count " + what, counts[what], x.count(what));
        }
        doc.due("BESIDE it none", 0, x.room(0, 0));
        doc.due("AT it none", 0, x.room(0, 1));
        doc.due("no PLAY", NOT, x.play(0));
        doc.due("no TEXT", 0, x.erase());
        WettedNet y = Nets.of(Nets.PATH9);
        y.begin(1);
        Check.put(y, "hands 2");
        doc.due("another object's rooms are its own", 1, x.count(0));
        doc.due("its text too", 0, x.count(2));
        doc.due("its PLAY too", NOT, x.play(0));
    }

    private void write() {
        doc.says("Promise 2", "`int write(long bytes, int n)`: n (1 .. 8) bytes more of THE TEXT, byte i being bytes >> 8 i & 255:"
                + " how many it has.");
        WettedNet x = new WettedNet();
        doc.due("one byte, the lowest", 1, x.write(0xFFFFFFFFFFFFFF68L, 1));
        doc.due("six more from below", 7, x.write(0xFFFF312073646e61L, 6));
        doc.due("they say hands 1", NONE, x.fault());
        doc.due("eight more", 15, x.write(BLANKS, 8));
        x.erase();
        doc.due("eight at once", 8, x.write(Check.pack("chance10".getBytes(), 0, 8), 8));
        doc.due("they say chance10", NONE, x.fault());
        for (int n = 1; n <= 8; n++) {
            x.erase();
            doc.due("n " + n + " of an empty text", n, x.write(BLANKS, n));
            doc.due("n " + n + " of one that is not", 2 * n, x.write(-1L, n));
            doc.due("n " + n + ": bytes 255 are no blanks", n, x.fault());
        }
        x.erase();
        // The eighth byte is the sign's: 177 is no 49, though its lower seven bits are.
        byte[] signed = "hands 11".getBytes();
        signed[7] = (byte) 177;
        doc.due("the sign's byte", 8, x.write(Check.pack(signed, 0, 8), 8));
        doc.due("is 177", 7, x.fault());
        x.erase();
        doc.due("bytes 0", 3, x.write(0, 3));
        doc.due("are no blanks", 0, x.fault());
    }

    private void writeRefused() {
        doc.says("Promise 2", "OUTSIDE; FULL.");
        refused("n 0", OUTSIDE, x -> x.write(BLANKS, 0));
        refused("n 9", OUTSIDE, x -> x.write(BLANKS, 9));
        refused("n -1", OUTSIDE, x -> x.write(BLANKS, -1));
        for (int far : Nets.FAR) {
            refused("n " + far, OUTSIDE, x -> x.write(BLANKS, far));
        }
        for (int n = 1; n <= 8; n++) {
            int more = n;
            WettedNet fits = Twins.with(200 - n);
            doc.due(n + " more fit", 200, fits.write(BLANKS, n));
            Twins.refused(doc, n + " are one too many", FULL, () -> Twins.with(201 - more), x -> x.write(BLANKS, more));
            Twins.refused(doc, n + " behind 200", FULL, () -> Twins.with(200), x -> x.write(0, more));
        }
        Twins.refused(doc, "OUTSIDE ahead of FULL", OUTSIDE, () -> Twins.with(200), x -> x.write(0, 9));
        Twins.refused(doc, "OUTSIDE ahead of FULL", OUTSIDE, () -> Twins.with(200), x -> x.write(0, 0));
        WettedNet again = Twins.with(200);
        again.erase();
        doc.due("no more FULL when erased", 8, again.write(BLANKS, 8));
    }

    private void erase() {
        doc.says("Promise 3", "`int erase()`: THE TEXT is empty: how many bytes it had.");
        WettedNet x = new WettedNet();
        doc.due("of an empty one", 0, x.erase());
        x.write('h', 1);
        doc.due("of one byte", 1, x.erase());
        Check.put(x, "hands 9" + " ".repeat(193));
        doc.due("of 200", 200, x.erase());
        doc.due("it is empty", 0, x.count(2));
        doc.due("and ends too soon", 0, x.fault());
        doc.due("nothing was done", 1, x.count(3));
        WettedNet play = Twins.midst();
        doc.due("of a text that waits", 25, play.erase());
        doc.due("the PLAY stays", 1, play.play(2));
        doc.due("the net stays", 12, play.count(1));
        doc.due("twice", 0, play.erase());
    }

    private void fault() {
        doc.says("Promise 4", "`int fault()`: The place of the FAULT (the byte with which the TOKEN begins, or the length); NONE.");
        doc.dueFault("", 0);
        doc.dueFault("zzzz", 0);
        doc.dueFault("hands 99", 6);
        doc.dueFault("hands", 5);
        doc.dueFault("hands1", NONE);
        doc.dueFault("hands1" + " ".repeat(193) + "x", 199);
        doc.dueFault("hands1" + " ".repeat(193) + ";", 200);
        doc.dueFault(" ".repeat(195) + "hands", 200);
        doc.dueFault(" ".repeat(196) + "hand", 196);
        WettedNet x = Twins.faulty();
        doc.due("asked", 39, x.fault());
        doc.due("asked again", 39, x.fault());
        doc.due("the text stays", 42, x.count(2));
        doc.due("the rooms stay", 5, x.count(0));
        doc.due("the PLAY stays", 1, x.play(2));
    }

    private void net() {
        doc.says("Promise 5", "`int net()`: THE TEXT's LINES are done, and it is empty then; a PLAY is none then: how many there were.");
        WettedNet x = Twins.midst();
        doc.due("three LINES", 3, x.net());
        doc.due("are done", 3, x.count(3));
        doc.due("also the last", 0, x.room(0, 0) & 2);
        doc.due("the text is empty", 0, x.count(2));
        for (int what = 0; what <= 4; what++) {
            doc.due("the PLAY is none, what " + what, NOT, x.play(what));
        }
        doc.due("nor has it a TURN", NOT, x.wets(0));
        doc.due("one LINE", 1, Nets.tell(x, "hands 1"));
        doc.due("twelve LINES of 200 bytes", 12, Nets.tell(x, "hands1;".repeat(11) + "hands2" + " ".repeat(117)));
        doc.due("are done", 2, x.count(3));
        WettedNet ended = Twins.ended();
        ended.net();
        doc.due("a PLAY that has ended is none too", NOT, ended.play(3));
        WettedNet same = Nets.of("hands 1");
        same.begin(1);
        Nets.tell(same, "hands 1");
        doc.due("none, though nothing is new", NOT, same.play(0));
    }

    private void netRefused() {
        doc.says("Promise 5", "NOT: it has a FAULT.");
        doc.due("an empty text", NOT, new WettedNet().net());
        Twins.refused(doc, "a fault in the last LINE", NOT, Twins::faulty, x -> x.net());
        Twins.refused(doc, "a fault at the end", NOT, () -> unended(";"), x -> x.net());
        Twins.refused(doc, "thirteen LINES", NOT, () -> unended(";hands1".repeat(10)), x -> x.net());
        doc.due("twelve are none", 12, unended(";hands1".repeat(9)).net());
        WettedNet mended = unended(";hands");
        doc.due("it ends too soon", NOT, mended.net());
        Check.put(mended, "2");
        doc.due("and does not when more is written", 4, mended.net());
        doc.due("what it says is done", 2, mended.count(3));
    }

    private static WettedNet unended(String more) {
        WettedNet x = Twins.midst();
        Check.put(x, more);
        return x;
    }

    private void room() {
        doc.says("Promise 6", "`int room(int room, int what)`: BESIDE a ROOM (what 0), AT it (1), by bits; FOLK (2), THICK (3).");
        WettedNet x = Nets.of("rooms 9;way 8 0;way 0 4;folk 0 0;folk 8 99;thick 8 9");
        int[][] want = {{16, 256, 0, 1}, {1, 0, 99, 9}, {0, 1, 1, 1}};
        int[] rooms = {0, 8, 4};
        for (int i = 0; i < rooms.length; i++) {
            for (int what = 0; what <= 3; what++) {
                doc.due("room " + rooms[i] + ", what " + what, want[i][what], x.room(rooms[i], what));
            }
        }
    }

    private void roomRefused() {
        doc.says("Promise 6", "UNKNOWN; OUTSIDE.");
        refused("the room behind the last", UNKNOWN, x -> x.room(5, 0));
        refused("ahead of the first", UNKNOWN, x -> x.room(-1, 0));
        refused("a room like 0 by its last bits", UNKNOWN, x -> x.room(32, 0));
        refused("what 4", OUTSIDE, x -> x.room(4, 4));
        refused("what -1", OUTSIDE, x -> x.room(4, -1));
        refused("UNKNOWN ahead of OUTSIDE", UNKNOWN, x -> x.room(5, 4));
        for (int far : Nets.FAR) {
            refused("room " + far, UNKNOWN, x -> x.room(far, 0));
            refused("what " + far, OUTSIDE, x -> x.room(0, far));
        }
    }

    // ---- fires

    private void least() {
        doc.says("Promise 7", "`int least(int fire, int what)`: With HANDS: LEAST LOST (what 0), FIRST WET (1), how many such sets (2)"
                + " of a FIRE.");
        WettedNet star = Nets.of(Nets.STAR9);
        int[] setsOf = {0, 8, 28, 56, 70, 56, 28, 8, 1, 1};
        for (int hands = 1; hands <= 9; hands++) {
            Nets.tell(star, "hands " + hands);
            doc.due("LOST with " + hands, Math.max(1, 9 - hands), star.least(1, 0));
            doc.due("FIRST WET with " + hands, Math.min(510, (1 << hands + 1) - 2), star.least(1, 1));
            doc.due("sets with " + hands, setsOf[hands], star.least(1, 2));
        }
        doc.due("an empty FIRE", 0, star.least(0, 0));
        doc.due("all burns", 9, star.least(511, 0));
        star.begin(256);
        star.wets(255);
        doc.due("a PLAY does not matter", 1, star.least(1, 0));
    }

    private void leastRefused() {
        doc.says("Promise 7", "OUTSIDE.");
        refused("a FIRE in a room behind the last", OUTSIDE, x -> x.least(32, 0));
        refused("in such a one too", OUTSIDE, x -> x.least(33, 0));
        refused("below", OUTSIDE, x -> x.least(-1, 0));
        refused("what 3", OUTSIDE, x -> x.least(31, 3));
        refused("what -1", OUTSIDE, x -> x.least(0, -1));
        refused("both", OUTSIDE, x -> x.least(32, 3));
        for (int far : Nets.FAR) {
            refused("fire " + far, OUTSIDE, x -> x.least(far, 0));
            refused("what " + far, OUTSIDE, x -> x.least(1, far));
        }
    }

    private void hold() {
        doc.says("Promise 8", "`int hold(int fire, int k)`: HOLD; NONE.");
        WettedNet star = Nets.of(Nets.STAR9, Nets.forEach("folk", 9, 99));
        doc.due("all may be lost", 1, star.hold(1, 999));
        doc.due("891 less 99", 1, star.hold(1, 792));
        doc.due("one less", 2, star.hold(1, 791));
        doc.due("what burns alone", 8, star.hold(1, 99));
        doc.due("NONE", NONE, star.hold(1, 98));
        doc.due("HANDS stay", 1, star.count(3));
        doc.says("Promise 8", "OUTSIDE: the FIRE, k (0 .. 999).");
        WettedNet none = new WettedNet();
        doc.due("k 0", 1, none.hold(0, 0));
        doc.due("k 999", 1, none.hold(1, 999));
        refused("k -1", OUTSIDE, x -> x.hold(0, -1));
        refused("k 1000", OUTSIDE, x -> x.hold(0, 1000));
        refused("the FIRE", OUTSIDE, x -> x.hold(32, 0));
        refused("the FIRE below", OUTSIDE, x -> x.hold(-1, 0));
        for (int far : Nets.FAR) {
            refused("fire " + far, OUTSIDE, x -> x.hold(far, 0));
            refused("k " + far, OUTSIDE, x -> x.hold(1, far));
        }
    }

    private void begin() {
        doc.says("Promise 9", "`int begin(int fire)`: A PLAY is begun: LEAST LOST.");
        WettedNet path = Nets.of(Nets.PATH5);
        doc.due("an empty FIRE", 0, path.begin(0));
        doc.due("it is begun", 0, path.play(2));
        doc.due("all burns", 5, path.begin(31));
        doc.due("in the midst of another", 2, path.begin(4));
        path.wets(1);
        doc.due("behind a BAD TURN", 1, path.begin(1));
        doc.due("none is BAD now", 0, path.play(4));
        path.wets(2);
        doc.due("it has ended", 1, path.play(3));
        doc.due("behind the end of another", 1, path.begin(16));
        doc.due("it has not ended", 0, path.play(3));
        doc.due("and may be played", 16, path.wets(8));
        doc.says("Promise 9", "OUTSIDE.");
        refused("a room behind the last", OUTSIDE, x -> x.begin(32));
        refused("below", OUTSIDE, x -> x.begin(-1));
        for (int far : Nets.FAR) {
            refused("fire " + far, OUTSIDE, x -> x.begin(far));
        }
        Twins.refused(doc, "no PLAY is begun so", OUTSIDE, Twins::quiet, x -> x.begin(32));
    }

    private void wets() {
        doc.says("Promise 10", "`int wets(int set)`: A TURN of it: what burns then, by bits.");
        WettedNet nine = Nets.of(Nets.STAR9);
        nine.begin(1);
        doc.due("all but one burn", 255, nine.wets(256));
        doc.due("none is left", 255, nine.wets(0));
        WettedNet empty = Nets.of(Nets.STAR9, "hands 9");
        empty.begin(0);
        doc.due("nothing burns", 0, empty.wets(511));
        WettedNet full = Nets.of(Nets.STAR9);
        full.begin(511);
        doc.due("all burns", 511, full.wets(0));
    }

    private void wetsRefused() {
        doc.says("Promise 10", "OUTSIDE; NOT: there is no PLAY, it has ended, or the set is not as it must be.");
        refused("a room behind the last", OUTSIDE, x -> x.wets(32));
        refused("below", OUTSIDE, x -> x.wets(-1));
        for (int far : Nets.FAR) {
            refused("set " + far, OUTSIDE, x -> x.wets(far));
        }
        Twins.refused(doc, "no PLAY", NOT, Twins::quiet, x -> x.wets(1));
        Twins.refused(doc, "no PLAY, no room", NOT, Twins::quiet, x -> x.wets(0));
        Twins.refused(doc, "no PLAY, but OUTSIDE ahead", OUTSIDE, Twins::quiet, x -> x.wets(32));
        Twins.refused(doc, "it has ended", NOT, Twins::ended, x -> x.wets(0));
        Twins.refused(doc, "it has ended, but OUTSIDE ahead", OUTSIDE, Twins::ended, x -> x.wets(32));
        refused("too few", NOT, x -> x.wets(0));
        refused("too many", NOT, x -> x.wets(24));
        refused("one that burns", NOT, x -> x.wets(1));
        refused("one that came to burn", NOT, x -> x.wets(2));
        refused("one that is WET", NOT, x -> x.wets(16));
    }

    private void play() {
        doc.says("Promise 11", "`int play(int what)`: Of the PLAY: what burns (what 0), is WET (1), TURNS (2), 1 ended, 0 not (3), BAD"
                + " TURNS by bits (4; TURN i bit i, from 0 on).");
        WettedNet ways = Nets.of(Nets.WAYS9);
        ways.begin(1);
        int[][] want = {{1, 0, 0, 0, 0}, {3, 256, 1, 0, 1}, {7, 384, 2, 0, 3}, {7, 392, 3, 1, 3}};
        int[] wet = {256, 128, 8};
        for (int turn = 0; turn <= 3; turn++) {
            for (int what = 0; what <= 4; what++) {
                doc.due("behind " + turn + " TURNS, what " + what, want[turn][what], ways.play(what));
            }
            if (turn < 3) {
                ways.wets(wet[turn]);
            }
        }
        WettedNet path = Nets.of(Nets.PATH5);
        path.begin(4);
        path.wets(8);
        path.wets(16);
        doc.due("a good TURN, then a BAD one", 2, path.play(4));
    }

    private void playRefused() {
        doc.says("Promise 11", "OUTSIDE; NOT: there is none.");
        refused("what 5", OUTSIDE, x -> x.play(5));
        refused("what -1", OUTSIDE, x -> x.play(-1));
        for (int far : Nets.FAR) {
            refused("what " + far, OUTSIDE, x -> x.play(far));
        }
        for (int what = 0; what <= 4; what++) {
            int of = what;
            Twins.refused(doc, "none, what " + what, NOT, Twins::quiet, x -> x.play(of));
        }
        Twins.refused(doc, "none, but OUTSIDE ahead", OUTSIDE, Twins::quiet, x -> x.play(5));
    }
}
