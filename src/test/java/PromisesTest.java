/** Each promise in its turn: ordinary inputs, the edges that the document names, wrong inputs. All answers by hand. */
public final class PromisesTest {
    private static final int NONE = -1, UNKNOWN = -2, OUTSIDE = -3, NOT = -4, FULL = -5;
    private static final int[] FAR = {Integer.MIN_VALUE, -1000, 1000, Integer.MAX_VALUE};
    private static final String PATH = "rooms 5;door 0 1;door 1 2;door 2 3;door 3 4";
    private static final String STAR = "rooms 5;door 0 1;door 0 2;door 0 3;door 0 4";
    private static final String RING = "rooms 4;door 0 1;door 1 2;door 2 3;door 3 0";

    private static final Check CHECK = new Check();

    private PromisesTest() {
    }

    public static void main(String[] args) {
        aNewObject();
        write();
        erase();
        faultOfWords();
        faultOfNumbers();
        faultOfRooms();
        faultOfLines();
        net();
        netKeepsAndForgets();
        room();
        least();
        hold();
        begin();
        wets();
        play();
        sparks();
        when();
        caught();
        seeds();
        ahead();
        forced();
        forcers();
        carried();
        mean();
        token();
        pairs();
        count();
        refusedCallsChangeNothing();
        everyQuestionIsNew();
        CHECK.end();
    }

    private static void due(String call, long want, long got) {
        CHECK.due(call, want, got);
    }

    private static void dueFault(String text, int want) {
        due("fault of '" + text + "'", want, Check.faultOf(new WettedNet(), text));
    }

    // ---- the net

    private static void aNewObject() {
        WettedNet x = new WettedNet();
        due("1 rooms", 1, x.count(0));
        due("1 ways", 0, x.count(1));
        due("1 bytes", 0, x.count(2));
        due("1 hands", 1, x.count(3));
        due("1 chance", 10, x.count(4));
        due("1 folk", 1, x.count(5));
        due("1 even", 1, x.count(6));
        due("1 folk of room 0", 1, x.room(0, 2));
        due("1 thick of room 0", 1, x.room(0, 3));
        due("1 no play", NOT, x.play(0));
        WettedNet y = Check.told(PATH);
        due("1 another object is not touched", 1, x.count(0));
        due("1 the other", 5, y.count(0));
    }

    private static void write() {
        WettedNet x = new WettedNet();
        due("2 one byte", 1, x.write(0xFFFFFFFFFFFFFF68L, 1));
        due("2 bytes from below", 7, x.write(0x312073646e61L, 6));
        due("2 the text is hands 1", NONE, x.fault());
        for (int n : new int[] {0, 9, -1, Integer.MIN_VALUE, Integer.MAX_VALUE}) {
            due("2 n " + n, OUTSIDE, x.write(0, n));
        }
        due("2 nothing changed", 7, x.count(2));
        x.erase();
        for (int i = 1; i <= 24; i++) {
            due("2 eight more", 8 * i, x.write(0x2020202020202020L, 8));
        }
        due("2 199 bytes", 199, x.write(0x2020202020202020L, 7));
        due("2 two more are too many", FULL, x.write(0, 2));
        due("2 still 199", 199, x.count(2));
        due("2 200 bytes", 200, x.write(0x20, 1));
        due("2 one more", FULL, x.write(0, 1));
        due("2 OUTSIDE ahead of FULL", OUTSIDE, x.write(0, 9));
        due("2 200 blanks end too soon", 200, x.fault());
        due("2 erased, it takes more", 200, x.erase());
        due("2 again", 8, x.write(-1L, 8));
        due("2 bytes are 255", 0, x.fault());
    }

    private static void erase() {
        WettedNet x = new WettedNet();
        due("3 of an empty text", 0, x.erase());
        Check.put(x, "hands 2");
        due("3 of seven bytes", 7, x.erase());
        due("3 empty now", 0, x.count(2));
        due("3 twice", 0, x.erase());
        due("3 nothing was done", 1, x.count(3));
        x.begin(0);
        x.erase();
        due("3 a play stays", 0, x.play(2));
    }

    private static void faultOfWords() {
        dueFault("", 0);
        dueFault("   ", 3);
        dueFault("hands", 5);
        dueFault("hands  ", 7);
        dueFault("hands 1", NONE);
        dueFault("  hands   1  ", NONE);
        dueFault("hands1", NONE);
        dueFault("hand 1", 0);
        dueFault("handss 1", 0);
        dueFault("hands hands 1", 6);
        dueFault("han ds 1", 0);
        dueFault(" Hands 1", 1);
        dueFault("1", 0);
        dueFault("hands\t1", 5);
        dueFault("hands 1 x", 8);
        dueFault("hands 1x", 7);
        dueFault("hands 1.", 7);
        dueFault("hands 1 2", 8);
        dueFault("hands-1", 5);
        dueFault("hands 1" + (char) 233, 7);
        dueFault((char) 0 + "hands 1", 0);
        dueFault("zzzzzzzz;hands 1", 0);
        for (String word : new String[] {"rooms", "door", "way", "shut", "folk", "thick", "hands", "chance"}) {
            for (int i = 0; i < word.length(); i++) {
                dueFault(" " + word.substring(0, i) + "z" + word.substring(i + 1) + " 1", 1);
                dueFault(" " + word.substring(0, i) + word.substring(i + 1) + " 1", 1);
            }
        }
        for (String word : new String[] {"rooms", "hands", "chance"}) {
            dueFault(word + " 1", NONE);
            dueFault(word + " ;", word.length() + 1);
        }
        for (String word : new String[] {"door", "way", "shut", "folk", "thick"}) {
            dueFault("rooms 2;" + word + " 0 1", NONE);
            dueFault("rooms 2;" + word + "0 1", NONE);
            dueFault("rooms 2;" + word + " 0", 8 + word.length() + 2);
            dueFault("rooms 2;" + word + " 0;", 8 + word.length() + 2);
            dueFault("rooms 2;" + word + " 0 1 1", 8 + word.length() + 5);
        }
    }

    private static void faultOfNumbers() {
        dueFault("rooms 0", 6);
        dueFault("rooms 9", NONE);
        dueFault("rooms 09", NONE);
        dueFault("rooms 009", 6);
        dueFault("rooms 10", 6);
        dueFault("hands 0", 6);
        dueFault("hands 9", NONE);
        dueFault("hands 10", 6);
        dueFault("chance 0", 7);
        dueFault("chance 10", NONE);
        dueFault("chance 11", 7);
        dueFault("chance 010", 7);
        dueFault("folk 0 0", NONE);
        dueFault("folk 0 00", NONE);
        dueFault("folk 0 99", NONE);
        dueFault("folk 0 100", 7);
        dueFault("folk 0 099", 7);
        dueFault("folk 0 1 0", 9);
        dueFault("folk 00 1", NONE);
        dueFault("folk 000 1", 5);
        dueFault("folk 01", 5);
        dueFault("thick 0 0", 8);
        dueFault("thick 0 9", NONE);
        dueFault("thick 0 10", 8);
        dueFault("folk 0 99999999999999999999", 7);
    }

    private static void faultOfRooms() {
        dueFault("folk 1 1", 5);
        dueFault("folk 0 1", NONE);
        dueFault("door 0 0", 7);
        dueFault("door 0 1", 7);
        dueFault("door 1 0", 5);
        dueFault("rooms 2;door 0 1", NONE);
        dueFault("rooms 2;door 1 1", 15);
        dueFault("rooms 2;door 01 1", 16);
        dueFault("rooms 2;way 1 2", 14);
        dueFault("rooms 2;shut 2 1", 13);
        dueFault("rooms 2;thick 1 1;rooms 1;thick 1 1", 32);
        dueFault("rooms 1;rooms 9;door 8 0", NONE);
        dueFault("rooms 9;door 9 0", 13);
        WettedNet x = Check.told("rooms 3");
        due("4 rooms as they are", NONE, Check.faultOf(x, "door 2 0"));
        due("4 no more of them", 5, Check.faultOf(x, "door 3 0"));
    }

    private static void faultOfLines() {
        dueFault(";", 0);
        dueFault("hands 1;", 8);
        dueFault("hands 1;  ", 10);
        dueFault("hands 1;;hands 1", 8);
        dueFault(";hands 1", 0);
        dueFault("hands 1 ; hands 2", NONE);
        dueFault("hands 1,hands 2", 7);
        String twelve = "hands1;".repeat(11) + "hands1";
        dueFault(twelve, NONE);
        dueFault(twelve + "  ", NONE);
        dueFault(twelve + " ;", 84);
        dueFault(twelve + ";hands1", 83);
        dueFault(twelve + "x", 83);
        dueFault("hands 1" + " ".repeat(193), NONE);
        dueFault(" ".repeat(193) + "hands 1", NONE);
        dueFault(" ".repeat(192) + "hands 1;", 200);
        dueFault("chance" + " ".repeat(193) + "9", NONE);
        dueFault("chance" + " ".repeat(192) + "99", 198);
        WettedNet x = new WettedNet();
        Check.put(x, "hands 1;x");
        due("4 asked twice", 8, x.fault());
        due("4 asked twice", 8, x.fault());
        due("4 the text stays", 9, x.count(2));
    }

    private static void net() {
        WettedNet x = new WettedNet();
        due("5 an empty text", NOT, x.net());
        Check.put(x, "hands 2;hands");
        due("5 a fault", NOT, x.net());
        due("5 none of it was done", 1, x.count(3));
        due("5 the text stays", 13, x.count(2));
        Check.put(x, " 7");
        due("5 two lines", 2, x.net());
        due("5 in their order", 7, x.count(3));
        due("5 it is empty then", 0, x.count(2));
        due("5 and so it ends too soon", NOT, x.net());
        Check.put(x, "hands1;".repeat(11) + "chance3");
        due("5 twelve lines", 12, x.net());
        due("5 the last of them", 3, x.count(4));
    }

    private static void netKeepsAndForgets() {
        WettedNet x = Check.told(PATH, "folk 1 50;thick 1 5;hands 3;chance 4");
        due("5 what earlier texts told stays", 8, x.count(1));
        x.begin(4);
        due("5 a play", 0, x.play(2));
        Check.put(x, "hands x");
        x.net();
        due("5 refused, the play stays", 0, x.play(2));
        x.erase();
        Check.put(x, "way 0 2");
        due("5 done", 1, x.net());
        due("5 the play is none", NOT, x.play(2));
        due("5 the way is there", 6, x.room(0, 0));
        due("5 not the one back", 10, x.room(2, 0));
        Check.put(x, "shut 2 0;way 2 0;way 2 0;door 0 4;way 4 0");
        x.net();
        due("5 shut takes both, way one", 11, x.count(1));
        due("5 from 0", 18, x.room(0, 0));
        due("5 from 2", 11, x.room(2, 0));
        Check.put(x, "rooms 5");
        x.net();
        due("5 no ways", 0, x.count(1));
        due("5 folk as at first", 1, x.room(1, 2));
        due("5 thick as at first", 1, x.room(1, 3));
        due("5 hands stay", 3, x.count(3));
        due("5 chance stays", 4, x.count(4));
        Check.put(x, "rooms 2;folk 1 9;rooms 9");
        x.net();
        due("5 nine rooms", 9, x.count(0));
        due("5 with one folk each", 9, x.count(5));
    }

    private static void room() {
        WettedNet x = Check.told("rooms 9;way 0 8;way 8 1;door 3 4;folk 8 99;thick 8 9;folk 0 0");
        due("6 beside 0", 256, x.room(0, 0));
        due("6 at 0", 0, x.room(0, 1));
        due("6 beside 8", 2, x.room(8, 0));
        due("6 at 8", 1, x.room(8, 1));
        due("6 beside 3", 16, x.room(3, 0));
        due("6 at 3", 16, x.room(3, 1));
        due("6 folk", 99, x.room(8, 2));
        due("6 no folk", 0, x.room(0, 2));
        due("6 thick", 9, x.room(8, 3));
        due("6 no such room", UNKNOWN, x.room(9, 0));
        due("6 none", UNKNOWN, x.room(-1, 0));
        due("6 what 4", OUTSIDE, x.room(8, 4));
        due("6 what -1", OUTSIDE, x.room(8, -1));
        due("6 UNKNOWN ahead of OUTSIDE", UNKNOWN, x.room(9, 4));
        for (int far : FAR) {
            due("6 far", UNKNOWN, x.room(far, 0));
            due("6 far", OUTSIDE, x.room(0, far));
        }
    }

    // ---- fires

    private static void least() {
        WettedNet path = Check.told(PATH);
        due("7 path from its end", 1, path.least(1, 0));
        due("7 by the room beside", 2, path.least(1, 1));
        due("7 by it alone", 1, path.least(1, 2));
        due("7 path from within", 2, path.least(4, 0));
        due("7 the least of two sets", 2, path.least(4, 1));
        due("7 two sets", 2, path.least(4, 2));
        due("7 no fire", 0, path.least(0, 0));
        due("7 no fire, but hands wet", 1, path.least(0, 1));
        due("7 no fire, any room", 5, path.least(0, 2));
        due("7 two fires, one hand", 3, path.least(17, 0));
        due("7 all burns", 5, path.least(31, 0));
        due("7 all burns, nothing to wet", 0, path.least(31, 1));
        due("7 all burns, one such set", 1, path.least(31, 2));
        WettedNet star = Check.told(STAR, "hands 3;folk 2 7;folk 4 0");
        due("7 star from its middle", 1, star.least(1, 0));
        due("7 the three with folk", 14, star.least(1, 1));
        due("7 just that", 1, star.least(1, 2));
        due("7 star from a room", 1, star.least(2, 0));
        due("7 middle and two more", 13, star.least(2, 1));
        due("7 of 2, 3, 4 two", 3, star.least(2, 2));
        WettedNet few = Check.told("rooms 3;way 0 1;way 1 2;hands 9");
        due("7 fewer than hands", 6, few.least(1, 1));
        due("7 all of them", 1, few.least(1, 2));
        due("7 a way is gone one way", 1, few.least(4, 0));
        due("7 and all the same", 3, few.least(4, 1));
        for (int far : FAR) {
            due("7 far fire", OUTSIDE, path.least(far, 0));
            due("7 far what", OUTSIDE, path.least(1, far));
        }
        due("7 bits of no rooms", OUTSIDE, path.least(32, 0));
        due("7 below", OUTSIDE, path.least(-1, 0));
        due("7 what 3", OUTSIDE, path.least(1, 3));
        due("7 what -1", OUTSIDE, path.least(1, -1));
        // The room with most folk, and the room ahead of it, can wait: first the one behind which two would burn.
        WettedNet later = Check.told("rooms 6;way 0 1;way 0 2;way 2 3;way 1 4;way 1 5;folk 3 90;folk 4 10;folk 5 10");
        due("7 later turns count", 2, later.least(1, 0));
        due("7 the first of them", 2, later.least(1, 1));
        due("7 it alone", 1, later.least(1, 2));
    }

    private static void hold() {
        WettedNet star = Check.told(STAR, "folk 1 9;folk 2 99");
        due("8 all", 1, star.hold(1, 999));
        due("8 one hand saves 99", 1, star.hold(1, 12));
        due("8 two", 2, star.hold(1, 11));
        due("8 two", 2, star.hold(1, 3));
        due("8 three", 3, star.hold(1, 2));
        due("8 four", 4, star.hold(1, 1));
        due("8 none", NONE, star.hold(1, 0));
        due("8 no fire", 1, star.hold(0, 0));
        due("8 k -1", OUTSIDE, star.hold(1, -1));
        due("8 k 1000", OUTSIDE, star.hold(1, 1000));
        due("8 the fire", OUTSIDE, star.hold(32, 0));
        due("8 the fire", OUTSIDE, star.hold(-1, 0));
        WettedNet nine = Check.told("rooms 9;way 0 1;way 0 2;way 0 3;way 0 4;way 0 5;way 0 6;way 0 7;way 0 8");
        due("8 eight hands", 8, nine.hold(1, 1));
        due("8 HANDS stay", 1, nine.count(3));
        Check.put(nine, "hands 9");
        nine.net();
        due("8 HANDS do not matter", 8, nine.hold(1, 1));
        for (int far : FAR) {
            due("8 far fire", OUTSIDE, star.hold(far, 0));
            due("8 far k", OUTSIDE, star.hold(1, far));
        }
    }

    private static void begin() {
        WettedNet path = Check.told(PATH);
        due("9 least lost", 2, path.begin(4));
        due("9 burns", 4, path.play(0));
        path.wets(1);
        due("9 another", 1, path.begin(1));
        due("9 from the start", 0, path.play(2));
        due("9 nothing wet", 0, path.play(1));
        due("9 nothing bad", 0, path.play(4));
        due("9 bits of no rooms", OUTSIDE, path.begin(32));
        due("9 below", OUTSIDE, path.begin(-1));
        due("9 the old one stays", 1, path.play(0));
        due("9 all burns", 5, path.begin(31));
        due("9 has not ended yet", 0, path.play(3));
        due("9 no fire", 0, path.begin(0));
        for (int far : FAR) {
            due("9 far", OUTSIDE, path.begin(far));
        }
    }

    private static void wets() {
        WettedNet path = Check.told(PATH);
        due("10 no play", NOT, path.wets(1));
        due("10 OUTSIDE ahead of NOT", OUTSIDE, path.wets(32));
        due("10 below", OUTSIDE, path.wets(-1));
        path.begin(4);
        due("10 too few", NOT, path.wets(0));
        due("10 too many", NOT, path.wets(3));
        due("10 one that burns", NOT, path.wets(4));
        due("10 the turn", 12, path.wets(2));
        due("10 one that is wet", NOT, path.wets(2));
        due("10 the next", 12, path.wets(16));
        due("10 it has ended", NOT, path.wets(1));
        due("10 OUTSIDE still", OUTSIDE, path.wets(32));
        WettedNet three = Check.told("rooms 3;door 0 1;hands 2");
        three.begin(2);
        due("10 all that are left", 2, three.wets(5));
        WettedNet less = Check.told("rooms 3;door 0 1;hands 9");
        less.begin(3);
        due("10 less than hands", NOT, less.wets(0));
        due("10 all of them", 3, less.wets(4));
        less.begin(7);
        due("10 none is left", 7, less.wets(0));
        WettedNet none = Check.told("rooms 3");
        none.begin(0);
        due("10 no fire burns", 0, none.wets(4));
        due("10 and it has ended", NOT, none.wets(1));
        for (int far : FAR) {
            due("10 far", OUTSIDE, none.wets(far));
        }
    }

    private static void play() {
        WettedNet path = Check.told("rooms 7;door 0 1;door 1 2;door 2 3;door 3 4;door 4 5;door 5 6");
        due("11 none", NOT, path.play(0));
        due("11 OUTSIDE ahead of NOT", OUTSIDE, path.play(5));
        due("11 below", OUTSIDE, path.play(-1));
        due("11 least lost", 1, path.begin(1));
        due("11 turn 0 is bad", 3, path.wets(64));
        due("11 by bits", 1, path.play(4));
        due("11 turn 1 is good", 3, path.wets(4));
        due("11 it has ended", 1, path.play(3));
        due("11 two turns", 2, path.play(2));
        due("11 wet", 68, path.play(1));
        due("11 burns", 3, path.play(0));
        due("11 by bits", 1, path.play(4));
        path.begin(1);
        path.wets(64);
        path.wets(32);
        due("11 two bad ones", 3, path.play(4));
        path.wets(8);
        due("11 and a good one", 3, path.play(4));
        path.begin(1);
        path.wets(8);
        due("11 first a bad one", 1, path.play(4));
        due("11 then what does not matter", 7, path.wets(64));
        due("11 as it burns up to 3", 3, path.play(4));
        due("11 ended", 0, path.play(3));
        path.wets(32);
        due("11 the last is good", 3, path.play(4));
        due("11 ended", 1, path.play(3));
        due("11 three turns", 3, path.play(2));
        for (int far : FAR) {
            due("11 far", OUTSIDE, path.play(far));
        }
    }

    // ---- sparks

    private static void sparks() {
        WettedNet path = Check.told(PATH);
        due("12 a path of five", 3, path.sparks(-1));
        due("12 first", 0, path.sparks(0));
        due("12 second", 2, path.sparks(1));
        due("12 third", 4, path.sparks(2));
        due("12 no more", NONE, path.sparks(3));
        due("12 far", NONE, path.sparks(Integer.MAX_VALUE));
        due("12 below", OUTSIDE, path.sparks(-2));
        due("12 far below", OUTSIDE, path.sparks(Integer.MIN_VALUE));
        WettedNet lone = Check.told("rooms 9");
        due("12 nine alone", 9, lone.sparks(-1));
        for (int i = 0; i < 9; i++) {
            due("12 one by one", i, lone.sparks(i));
        }
        due("12 no tenth", NONE, lone.sparks(9));
        WettedNet star = Check.told(STAR);
        due("12 a star", 2, star.sparks(-1));
        due("12 its middle", 0, star.sparks(0));
        due("12 then all burns", NONE, star.sparks(1));
        WettedNet ways = Check.told("rooms 4;way 3 2;way 2 1;way 1 0");
        due("12 one way", 3, ways.sparks(-1));
        due("12 the end of all ways", 0, ways.sparks(0));
        due("12 ahead of 1", 2, ways.sparks(1));
        due("12 what is left", 3, ways.sparks(2));
    }

    private static void when() {
        WettedNet path = Check.told(PATH);
        due("13 thrown there", 1, path.when(2, 1, 2));
        due("13 beside", 2, path.when(2, 1, 3));
        due("13 behind the row", 3, path.when(2, 1, 4));
        due("13 to the end", 5, path.when(0, 1, 4));
        due("13 a later spark", 2, path.when(0x40, 2, 4));
        due("13 one that burns already", 3, path.when(0x4000, 4, 2));
        due("13 sparks behind n do not matter", 5, path.when(0xFF0, 1, 4));
        due("13 the room", UNKNOWN, path.when(0, 1, 5));
        due("13 a spark", UNKNOWN, path.when(0x50, 2, 0));
        due("13 the first spark", UNKNOWN, path.when(0x05, 2, 0));
        due("13 n 0", OUTSIDE, path.when(0, 0, 0));
        due("13 n 9", OUTSIDE, path.when(0, 9, 0));
        due("13 n ahead of sparks", OUTSIDE, path.when(0xF, 9, 0));
        due("13 the room ahead of n", UNKNOWN, path.when(0, 9, 5));
        due("13 no room", UNKNOWN, path.when(0, 1, -1));
        WettedNet lone = Check.told("rooms 9");
        due("13 the eighth", 8, lone.when(0x87654321, 8, 8));
        due("13 none", NONE, lone.when(0x87654321, 8, 0));
        due("13 the eighth is wrong", UNKNOWN, lone.when(0xF7654321, 8, 0));
        due("13 nor told", 7, lone.when(0xF7654321, 7, 7));
        WettedNet ways = Check.told("rooms 3;way 0 1;way 1 2");
        due("13 by ways", 3, ways.when(0, 1, 2));
        due("13 not against them", NONE, ways.when(2, 1, 0));
        WettedNet apart = Check.told("rooms 4;way 0 2;way 1 3");
        due("13 of two that burn the first", 2, apart.when(0x10, 2, 2));
        due("13 and the second", 3, apart.when(0x10, 2, 3));
        for (int far : FAR) {
            due("13 far room", UNKNOWN, path.when(0, 1, far));
            due("13 far n", OUTSIDE, path.when(0, far, 0));
        }
    }

    // ---- catching, forcing

    private static void caught() {
        WettedNet star = Check.told(STAR, "thick 0 3;thick 4 2");
        due("14 two are too few", 6, star.caught(6, -1));
        due("14 three", 15, star.caught(14, -1));
        due("14 the set's turn", 0, star.caught(14, 1));
        due("14 its turn", 1, star.caught(14, 0));
        due("14 too thick", NONE, star.caught(14, 4));
        due("14 nothing", 0, star.caught(0, -1));
        due("14 nothing", NONE, star.caught(0, 0));
        due("14 bits of no rooms", OUTSIDE, star.caught(32, -1));
        due("14 below", OUTSIDE, star.caught(-1, 0));
        due("14 the room", UNKNOWN, star.caught(0, 5));
        due("14 the room", UNKNOWN, star.caught(0, -2));
        due("14 UNKNOWN ahead of OUTSIDE", UNKNOWN, star.caught(32, 5));
        WettedNet ways = Check.told("rooms 3;way 0 1;way 1 2");
        due("14 by ways", 2, ways.caught(1, 2));
        due("14 not against them", 4, ways.caught(4, -1));
        for (int far : FAR) {
            due("14 far room", UNKNOWN, ways.caught(0, far));
            due("14 far set", OUTSIDE, ways.caught(far, -1));
        }
    }

    private static void seeds() {
        WettedNet path = Check.told(PATH);
        due("15 within 1", 2, path.seeds(1, 0));
        due("15 the least", 9, path.seeds(1, 1));
        due("15 how many", 3, path.seeds(1, 2));
        due("15 within 2", 1, path.seeds(2, 0));
        due("15 the middle", 4, path.seeds(2, 1));
        due("15 it alone", 1, path.seeds(2, 2));
        due("15 within 3", 2, path.seeds(3, 1));
        due("15 how many", 3, path.seeds(3, 2));
        due("15 within 9", 1, path.seeds(9, 1));
        due("15 how many", 5, path.seeds(9, 2));
        WettedNet thick = Check.told("rooms 3;door 0 1;door 1 2;thick 0 2;thick 2 9;thick 1 2");
        due("15 both ends", 2, thick.seeds(9, 0));
        due("15 both ends", 5, thick.seeds(9, 1));
        due("15 alone", 1, thick.seeds(9, 2));
        WettedNet lone = Check.told("rooms 9");
        due("15 all", 511, lone.seeds(1, 1));
        due("15 t 0", OUTSIDE, path.seeds(0, 0));
        due("15 t 10", OUTSIDE, path.seeds(10, 0));
        due("15 what 3", OUTSIDE, path.seeds(1, 3));
        due("15 what -1", OUTSIDE, path.seeds(1, -1));
        for (int far : FAR) {
            due("15 far t", OUTSIDE, path.seeds(far, 0));
            due("15 far what", OUTSIDE, path.seeds(1, far));
        }
    }

    private static void ahead() {
        WettedNet path = Check.told(PATH, "folk 4 99");
        due("16 nothing need be wet", 0, path.ahead(1, 103));
        due("16 the least room", 2, path.ahead(1, 102));
        due("16 the next to it", 2, path.ahead(1, 1));
        due("16 both sides", 10, path.ahead(4, 1));
        due("16 the far one", 8, path.ahead(4, 3));
        due("16 none", NONE, path.ahead(1, 0));
        due("16 none", NONE, path.ahead(16, 98));
        due("16 an empty set", 0, path.ahead(0, 0));
        due("16 all of them", NONE, path.ahead(31, 102));
        due("16 all of them", 0, path.ahead(31, 999));
        due("16 the set", OUTSIDE, path.ahead(32, 0));
        due("16 the set", OUTSIDE, path.ahead(-1, 0));
        due("16 k -1", OUTSIDE, path.ahead(1, -1));
        due("16 k 1000", OUTSIDE, path.ahead(1, 1000));
        WettedNet thick = Check.told("rooms 4;door 0 1;door 0 2;door 1 3;door 2 3;thick 3 2;folk 3 9");
        due("16 one side is enough", 2, thick.ahead(1, 3));
        due("16 and no more", 6, thick.ahead(1, 1));
        for (int far : FAR) {
            due("16 far set", OUTSIDE, path.ahead(far, 0));
            due("16 far k", OUTSIDE, path.ahead(1, far));
        }
    }

    private static void forced() {
        WettedNet path = Check.told(PATH);
        due("17 from an end", 31, path.forced(1, -1, 0));
        due("17 the last round", 4, path.forced(1, 4, 0));
        due("17 by the one ahead", 3, path.forced(1, 4, 1));
        due("17 of the set", 0, path.forced(1, 0, 0));
        due("17 by none", NONE, path.forced(1, 0, 1));
        due("17 two are left", 4, path.forced(4, -1, 0));
        due("17 never", NONE, path.forced(4, 3, 0));
        due("17 never by any", NONE, path.forced(4, 3, 1));
        due("17 what does not matter", 31, path.forced(1, -1, 7));
        due("17 what 2", OUTSIDE, path.forced(1, 0, 2));
        due("17 what -1", OUTSIDE, path.forced(1, 0, -1));
        due("17 the set", OUTSIDE, path.forced(32, -1, 0));
        due("17 the set", OUTSIDE, path.forced(-1, 0, 0));
        due("17 the room", UNKNOWN, path.forced(1, 5, 0));
        due("17 the room", UNKNOWN, path.forced(1, -2, 0));
        due("17 UNKNOWN ahead of OUTSIDE", UNKNOWN, path.forced(32, 5, 2));
        WettedNet ring = Check.told(RING);
        due("17 both at once", 15, ring.forced(3, -1, 0));
        due("17 the first round", 1, ring.forced(3, 3, 0));
        due("17 by 0", 0, ring.forced(3, 3, 1));
        due("17 by 1", 1, ring.forced(3, 2, 1));
        due("17 the least that forces", 0, ring.forced(13, 1, 1));
        due("17 none from beside", 5, ring.forced(5, -1, 0));
        WettedNet star = Check.told(STAR);
        due("17 the least of several", 1, star.forced(30, 0, 1));
        due("17 all but one", 31, star.forced(15, -1, 0));
        due("17 by the middle", 0, star.forced(15, 4, 1));
        WettedNet ways = Check.told("rooms 3;way 0 1;way 1 2");
        due("17 by ways", 2, ways.forced(1, 2, 0));
        due("17 not against them", 4, ways.forced(4, -1, 0));
        for (int far : FAR) {
            due("17 far room", UNKNOWN, path.forced(0, far, 0));
            due("17 far set", OUTSIDE, path.forced(far, -1, 0));
            due("17 far what", OUTSIDE, path.forced(1, 1, far));
        }
    }

    private static void forcers() {
        WettedNet path = Check.told(PATH);
        due("18 a path", 1, path.forcers(0));
        due("18 an end", 1, path.forcers(1));
        due("18 both ends", 2, path.forcers(2));
        due("18 two rooms and two rounds", 4, path.forcers(3));
        due("18 the least", 6, path.forcers(4));
        WettedNet star = Check.told(STAR);
        due("18 a star", 3, star.forcers(0));
        due("18 three of its rooms", 14, star.forcers(1));
        due("18 four of four", 4, star.forcers(2));
        due("18 four rooms, one round", 5, star.forcers(3));
        due("18 middle and three, but 14 and two rounds too", 14, star.forcers(4));
        WettedNet ring = Check.told(RING);
        due("18 a ring", 2, ring.forcers(0));
        due("18 two beside", 3, ring.forcers(1));
        due("18 four of them", 4, ring.forcers(2));
        due("18 in a round", 3, ring.forcers(3));
        due("18 the same", 3, ring.forcers(4));
        WettedNet lone = Check.told("rooms 9");
        due("18 all", 9, lone.forcers(0));
        due("18 all", 511, lone.forcers(1));
        due("18 all", 1, lone.forcers(2));
        due("18 no rounds", 9, lone.forcers(3));
        due("18 all", 511, lone.forcers(4));
        due("18 what 5", OUTSIDE, path.forcers(5));
        due("18 what -1", OUTSIDE, path.forcers(-1));
        for (int far : FAR) {
            due("18 far", OUTSIDE, path.forcers(far));
        }
    }

    // ---- chances, tokens

    private static void carried() {
        WettedNet two = Check.told("rooms 4;way 0 1;way 1 2;way 0 2;chance 5");
        due("19 5 of 8", 5, two.carried(0, 2, 0));
        due("19 of 8", 8, two.carried(0, 2, 1));
        due("19 one half", 1, two.carried(0, 1, 0));
        due("19 one half", 2, two.carried(0, 1, 1));
        due("19 to room 0", 7, Check.told("rooms 2;way 1 0;chance 7").carried(1, 0, 0));
        due("19 never", 0, two.carried(2, 0, 0));
        due("19 never, below", 1, two.carried(2, 0, 1));
        due("19 the same room", 1, two.carried(3, 3, 0));
        due("19 the same room", 1, two.carried(3, 3, 1));
        due("19 a", UNKNOWN, two.carried(4, 0, 0));
        due("19 b", UNKNOWN, two.carried(0, 4, 0));
        due("19 UNKNOWN ahead of OUTSIDE", UNKNOWN, two.carried(0, -1, 2));
        due("19 part 2", OUTSIDE, two.carried(0, 1, 2));
        due("19 part -1", OUTSIDE, two.carried(0, 1, -1));
        WettedNet ten = Check.told("rooms 9;way 0 1;way 1 2;way 2 3;way 3 4;way 4 5;way 5 6;way 6 7;way 7 8;way 8 0;way 8 1",
                "chance 1");
        due("19 ten ways", 1, ten.carried(0, 8, 0));
        due("19 a power of ten", 100000000, ten.carried(0, 8, 1));
        Check.put(ten, "chance 10");
        ten.net();
        due("19 surely", 1, ten.carried(0, 8, 0));
        due("19 surely", 1, ten.carried(0, 8, 1));
        Check.put(ten, "way 8 2");
        ten.net();
        due("19 eleven ways", NOT, ten.carried(0, 8, 0));
        due("19 one room too", NOT, ten.carried(0, 0, 0));
        due("19 OUTSIDE ahead of NOT", OUTSIDE, ten.carried(0, 0, 2));
        due("19 UNKNOWN ahead of all", UNKNOWN, ten.carried(9, 0, 2));
        for (int far : FAR) {
            due("19 far a", UNKNOWN, two.carried(far, 0, 0));
            due("19 far b", UNKNOWN, two.carried(0, far, 0));
            due("19 far part", OUTSIDE, two.carried(0, 0, far));
        }
        manyWays();
    }

    /** Ten ways side by side: 1 - (1 - 1/100)^5 of 10^10, which no int holds. */
    private static void manyWays() {
        WettedNet x = Check.told("rooms 7;way 0 1;way 0 2;way 0 3;way 0 4;way 0 5;way 1 6;way 2 6;way 3 6;way 4 6;way 5 6",
                "chance 1;folk 0 99;folk 6 0");
        due("19 above", 490099501, x.carried(0, 6, 0));
        due("19 below", 10000000000L, x.carried(0, 6, 1));
        due("20 five times a tenth", 199, x.mean(0, 0));
        due("20 below", 2, x.mean(0, 1));
    }

    private static void mean() {
        WettedNet two = Check.told("rooms 4;way 0 1;way 1 2;way 0 2;chance 5;folk 0 3;folk 1 2;folk 2 16");
        due("20 3 + 1 + 10", 14, two.mean(0, 0));
        due("20 below", 1, two.mean(0, 1));
        due("20 2 + 8", 10, two.mean(1, 0));
        due("20 alone", 16, two.mean(2, 0));
        due("20 alone", 1, two.mean(2, 1));
        Check.put(two, "folk 0 0;folk 1 0;folk 2 0;chance 3");
        two.net();
        due("20 no folk", 0, two.mean(0, 0));
        due("20 no folk", 1, two.mean(0, 1));
        Check.put(two, "folk 1 1");
        two.net();
        due("20 three", 3, two.mean(0, 0));
        due("20 tenths", 10, two.mean(0, 1));
        due("20 a", UNKNOWN, two.mean(4, 0));
        due("20 a", UNKNOWN, two.mean(-1, 0));
        due("20 part 2", OUTSIDE, two.mean(0, 2));
        due("20 part -1", OUTSIDE, two.mean(0, -1));
        due("20 UNKNOWN ahead of OUTSIDE", UNKNOWN, two.mean(4, 2));
        WettedNet ring = Check.told("rooms 6;door 0 1;door 1 2;door 2 3;door 3 4;door 4 5;door 5 0");
        due("20 twelve ways", NOT, ring.mean(0, 0));
        due("20 OUTSIDE ahead of NOT", OUTSIDE, ring.mean(0, 2));
        for (int far : FAR) {
            due("20 far a", UNKNOWN, two.mean(far, 0));
            due("20 far part", OUTSIDE, two.mean(0, far));
        }
    }

    private static void token() {
        WettedNet path = Check.told(PATH);
        due("21 four goes lose", 0, path.token(0, 0, 0));
        due("21 four goes", 4, path.token(0, 0, 1));
        due("21 the only step", 1, path.token(0, 0, 2));
        due("21 alone", 4, path.token(0, 0, 3));
        due("21 one go wins", 1, path.token(1, 0, 0));
        due("21 as soon as may be", 1, path.token(1, 0, 1));
        due("21 to the end", 0, path.token(1, 0, 2));
        due("21 alone the other way", 3, path.token(1, 0, 3));
        due("21 the least of two steps", 1, path.token(2, 0, 2));
        due("21 where it was", 3, path.token(2, 2, 2));
        due("21 where it was", 3, path.token(1, 1, 1));
        due("21 its own room does not matter", 3, path.token(1, 3, 1));
        due("21 nowhere to go", 0, path.token(0, 2, 0));
        due("21 nowhere to go", 0, path.token(0, 2, 1));
        due("21 nowhere to go", NONE, path.token(0, 2, 2));
        due("21 nowhere to go", 0, path.token(0, 2, 3));
        due("21 everywhere been", NONE, path.token(2, 31, 2));
        due("21 the room", UNKNOWN, path.token(5, 0, 0));
        due("21 the room", UNKNOWN, path.token(-1, 0, 0));
        due("21 UNKNOWN ahead of OUTSIDE", UNKNOWN, path.token(5, 32, 4));
        due("21 been", OUTSIDE, path.token(0, 32, 0));
        due("21 been", OUTSIDE, path.token(0, -1, 0));
        due("21 what 4", OUTSIDE, path.token(0, 0, 4));
        due("21 what -1", OUTSIDE, path.token(0, 0, -1));
        // Who loses in 0 goes to 2, not to 1: that is later.
        WettedNet late = Check.told("rooms 6;way 0 1;way 1 3;way 0 2;way 2 3;way 3 4;way 4 5;shut 1 3;way 1 5");
        due("21 who loses", 0, late.token(0, 0, 0));
        due("21 goes late", 4, late.token(0, 0, 1));
        due("21 by 2", 2, late.token(0, 0, 2));
        // Who wins in 0 goes to 2, not to 1: that is sooner.
        WettedNet soon = Check.told("rooms 5;way 0 1;way 1 3;way 3 4;way 0 2");
        due("21 who wins", 1, soon.token(0, 0, 0));
        due("21 goes soon", 1, soon.token(0, 0, 1));
        due("21 by 2", 2, soon.token(0, 0, 2));
        due("21 alone", 3, soon.token(0, 0, 3));
        for (int far : FAR) {
            due("21 far room", UNKNOWN, path.token(far, 0, 0));
            due("21 far been", OUTSIDE, path.token(0, far, 0));
            due("21 far what", OUTSIDE, path.token(0, 0, far));
        }
    }

    private static void pairs() {
        due("22 one room", 0, new WettedNet().pairs());
        due("22 a path", 2, Check.told(PATH).pairs());
        due("22 a star", 1, Check.told(STAR).pairs());
        due("22 a ring", 2, Check.told(RING).pairs());
        due("22 nine alone", 0, Check.told("rooms 9").pairs());
        due("22 the lowest room stays alone", 1, Check.told("rooms 3;door 1 2").pairs());
        due("22 a triangle with a tail each", 3,
                Check.told("rooms 6;door 0 1;door 1 2;door 2 0;door 0 3;door 1 4;door 2 5").pairs());
        WettedNet x = Check.told("rooms 3;way 0 1");
        due("22 not even", NOT, x.pairs());
        Check.put(x, "way 1 0");
        x.net();
        due("22 even now", 1, x.pairs());
    }

    private static void count() {
        WettedNet x = Check.told("rooms 9;door 0 8;way 1 2;folk 3 99;hands 9;chance 1");
        Check.put(x, "abc");
        due("23 rooms", 9, x.count(0));
        due("23 ways", 3, x.count(1));
        due("23 bytes", 3, x.count(2));
        due("23 hands", 9, x.count(3));
        due("23 chance", 1, x.count(4));
        due("23 folk", 107, x.count(5));
        due("23 not even", 0, x.count(6));
        due("23 what 7", OUTSIDE, x.count(7));
        due("23 what -1", OUTSIDE, x.count(-1));
        for (int far : FAR) {
            due("23 far", OUTSIDE, x.count(far));
        }
        x.erase();
        Check.put(x, "shut 2 1");
        x.net();
        due("23 even", 1, x.count(6));
        due("23 ways", 2, x.count(1));
    }

    // ---- refusals

    private static String state(WettedNet x) {
        StringBuilder all = new StringBuilder();
        for (int i = 0; i <= 6; i++) {
            all.append(x.count(i)).append(' ');
        }
        for (int i = 0; i <= 4; i++) {
            all.append(x.play(i)).append(' ');
        }
        for (int r = 0; r < x.count(0); r++) {
            for (int what = 0; what <= 3; what++) {
                all.append(x.room(r, what)).append(' ');
            }
        }
        return all.append(x.fault()).toString();
    }

    private static void refusedCallsChangeNothing() {
        WettedNet x = Check.told(PATH, "way 0 2;folk 1 5;hands 2;chance 3;door 1 4");
        x.begin(1);
        x.wets(12);
        Check.put(x, "door 1 3;x" + " ".repeat(189));
        String before = state(x);
        long[] refused = {x.write(0, 9), x.write(0, 2), x.net(), x.room(9, 9), x.least(99, 9), x.hold(99, -1), x.begin(99),
            x.wets(99), x.wets(1), x.play(9), x.sparks(-9), x.when(0, 99, 99), x.caught(99, 99), x.seeds(99, 99),
            x.ahead(99, -1), x.forced(99, 99, 99), x.forcers(99), x.carried(9, 9, 9), x.carried(0, 0, 0), x.mean(9, 9),
            x.mean(0, 0), x.token(9, 99, 9), x.pairs(), x.count(9)};
        long[] want = {OUTSIDE, FULL, NOT, UNKNOWN, OUTSIDE, OUTSIDE, OUTSIDE,
            OUTSIDE, NOT, OUTSIDE, OUTSIDE, UNKNOWN, UNKNOWN, OUTSIDE,
            OUTSIDE, UNKNOWN, OUTSIDE, UNKNOWN, NOT, UNKNOWN,
            NOT, UNKNOWN, NOT, OUTSIDE};
        for (int i = 0; i < want.length; i++) {
            due("refused call " + i, want[i], refused[i]);
        }
        CHECK.holds("refused calls change nothing: " + before + " / " + state(x), before.equals(state(x)));
        String answers = x.least(1, 0) + " " + x.hold(1, 3) + " " + x.sparks(0) + " " + x.forcers(4) + " " + x.token(0, 0, 1);
        CHECK.holds("nor do questions: " + answers, before.equals(state(x)));
    }

    /** What one question found out does not serve another one, or another net. */
    private static void everyQuestionIsNew() {
        WettedNet x = Check.told("rooms 4;door 0 1;door 1 2;door 2 3");
        for (int i = 0; i < 3; i++) {
            askOfPath(x, "time " + i);
            Check.put(x, "door 0 2;door 0 3;folk 3 50;hands 2");
            x.net();
            due("then least", 2, x.least(1, 0));
            due("then first wet", 10, x.least(1, 1));
            due("then sparks", 2, x.sparks(-1));
            due("then length", 3, x.token(1, 0, 1));
            due("then alone", 3, x.token(1, 0, 3));
            due("then pairs", 2, x.pairs());
            Check.put(x, "shut 2 3;shut 1 2");
            x.net();
            due("then pairs of a star", 1, x.pairs());
            due("then least of a star", 2, x.least(1, 0));
            due("then alone in a star", 2, x.token(1, 0, 3));
            due("then sparks in a star", 2, x.sparks(-1));
            Check.put(x, "rooms 4;door 0 1;door 1 2;door 2 3;hands 1");
            x.net();
        }
    }

    private static void askOfPath(WettedNet x, String time) {
        due("least, " + time, 1, x.least(1, 0));
        due("least, " + time, 2, x.least(1, 1));
        due("least, " + time, 2, x.least(2, 0));
        due("first wets, " + time, 2, x.least(4, 2));
        due("hold, " + time, 2, x.hold(2, 1));
        due("least behind hold, " + time, 2, x.least(2, 0));
        due("sparks, " + time, 2, x.sparks(-1));
        due("spark, " + time, 1, x.sparks(0));
        due("length, " + time, 3, x.token(0, 0, 1));
        due("length, " + time, 1, x.token(1, 0, 1));
        due("alone, " + time, 2, x.token(1, 0, 3));
        due("pairs, " + time, 2, x.pairs());
    }
}
