/** The Terms' sentences about fires and plays. */
final class FireBoundaries {
    private static final int NONE = -1, OUTSIDE = -3, NOT = -4;
    private static final String TERMS = "Terms";

    private final Sentences doc;

    FireBoundaries(Sentences doc) {
        this.doc = doc;
    }

    void run() {
        fire();
        turnWets();
        turnBurns();
        ends();
        lost();
        leastLost();
        firstWet();
        hold();
        play();
        bad();
    }

    private void fire() {
        doc.says(TERMS, "A FIRE burns in a set of ROOMS.");
        WettedNet path = Nets.of(Nets.PATH5);
        doc.due("an empty one", 0, path.least(0, 0));
        doc.due("all burns", 5, path.least(31, 0));
        doc.due("two rooms, one hand", 3, path.least(17, 0));
        WettedNet nine = Nets.of(Nets.LONE9);
        doc.due("all nine", 9, nine.least(511, 0));
        doc.due("a tenth", OUTSIDE, nine.least(512, 0));
        WettedNet one = new WettedNet();
        doc.due("the one room", 1, one.least(1, 0));
        doc.due("begun empty", 0, one.begin(0));
        doc.due("nothing burns", 0, one.play(0));
    }

    private void turnWets() {
        doc.says(TERMS, "A TURN: h ROOMS that neither burn nor are WET (all of them, if there are less) become WET;");
        WettedNet path = Nets.of(Nets.PATH5, "hands 2");
        path.begin(4);
        doc.due("one is too few", NOT, path.wets(2));
        doc.due("three are too many", NOT, path.wets(11));
        doc.due("one that burns", NOT, path.wets(6));
        doc.due("just two", 4, path.wets(10));
        doc.due("are WET", 10, path.play(1));
        WettedNet one = Nets.of(Nets.PATH5);
        one.begin(1);
        doc.due("the far one", 3, one.wets(16));
        doc.due("it is WET already", NOT, one.wets(16));
        doc.due("it came to burn", NOT, one.wets(2));
        doc.due("none at all", NOT, one.wets(0));
        doc.due("another", 3, one.wets(4));
        doc.due("both are WET", 20, one.play(1));
        turnWetsAllThatAreLeft();
    }

    private void turnWetsAllThatAreLeft() {
        WettedNet three = Nets.of(Nets.PATH5, "hands 3");
        three.begin(17);
        doc.due("two of the last three", NOT, three.wets(6));
        doc.due("as many as are left", 17, three.wets(14));
        WettedNet nine = Nets.of(Nets.PATH5, "hands 9");
        nine.begin(4);
        doc.due("three of four", NOT, nine.wets(11));
        doc.due("none of four", NOT, nine.wets(0));
        doc.due("all that are left", 4, nine.wets(27));
        WettedNet star = Nets.of(Nets.STAR5);
        star.begin(1);
        doc.due("the rest burns", 29, star.wets(2));
        doc.due("none is left, so not one", NOT, star.wets(2));
        doc.due("none is left", 29, star.wets(0));
        WettedNet ring = Nets.of(Nets.RING4);
        ring.begin(1);
        doc.due("the other side", 9, ring.wets(2));
        doc.due("one is left and must be", NOT, ring.wets(0));
        doc.due("the one that is left", 9, ring.wets(4));
    }

    private void turnBurns() {
        doc.says(TERMS, "then each ROOM BESIDE one that burns burns, if it is not WET.");
        WettedNet path = Nets.of(Nets.PATH5);
        path.begin(1);
        doc.due("WET comes ahead of it", 1, path.wets(2));
        path.begin(1);
        doc.due("one step a TURN", 3, path.wets(16));
        path.begin(17);
        doc.due("from each that burns", 27, path.wets(4));
        WettedNet way = Nets.of("rooms 3;way 0 1");
        way.begin(2);
        doc.due("not against the WAY", 2, way.wets(4));
        way.begin(1);
        doc.due("along it", 3, way.wets(4));
        WettedNet thick = Nets.of("rooms 3;door 0 1;thick 1 9");
        thick.begin(1);
        doc.due("THICK is of CATCHING", 3, thick.wets(4));
        WettedNet full = Nets.full(9);
        full.begin(256);
        doc.due("all but the WET one", 510, full.wets(1));
    }

    private void ends() {
        doc.says(TERMS, "It ends behind a TURN in which no other ROOM came to burn.");
        WettedNet star = Nets.of(Nets.STAR5);
        star.begin(1);
        doc.due("not when begun", 0, star.play(3));
        star.wets(2);
        doc.due("not behind one in which others did", 0, star.play(3));
        star.wets(0);
        doc.due("behind one in which none did", 1, star.play(3));
        doc.due("it is counted", 2, star.play(2));
        for (int fire : new int[] {0, 31}) {
            WettedNet path = Nets.of(Nets.PATH5, "hands 9");
            path.begin(fire);
            doc.due("not at once from " + fire, 0, path.play(3));
            doc.due("one TURN from " + fire, fire, path.wets(31 & ~fire));
            doc.due("ended from " + fire, 1, path.play(3));
        }
    }

    private void lost() {
        doc.says(TERMS, "LOST is the FOLK of all that burn in the end.");
        WettedNet most = Nets.of(Nets.LONE9, Nets.forEach("folk", 9, 99));
        doc.due("the most that can be", 891, most.least(511, 0));
        doc.due("one room's", 99, most.least(256, 0));
        WettedNet none = Nets.of(Nets.PATH5, Nets.forEach("folk", 5, 0));
        doc.due("no FOLK", 0, none.least(31, 0));
        doc.due("nothing burns", 0, most.least(0, 0));
        doc.due("with those that came to burn", 8, Nets.of("rooms 3;way 0 1;way 0 2;folk 1 7;folk 2 8").least(1, 0));
    }

    private void leastLost() {
        doc.says(TERMS, "LEAST LOST: by the best ROOMS each TURN.");
        WettedNet path = Nets.of(Nets.PATH5);
        doc.due("from an end", 1, path.least(1, 0));
        doc.due("from the middle", 2, path.least(4, 0));
        Nets.tell(path, "folk 3 99");
        doc.due("the one with FOLK is saved", 2, path.least(4, 0));
        doc.due("by it alone", 8, path.least(4, 1));
        WettedNet full = Nets.full(9);
        doc.due("one hand among all", 8, full.least(1, 0));
        Nets.tell(full, "hands 7");
        doc.due("seven hands", 2, full.least(1, 0));
        Nets.tell(full, "hands 8");
        doc.due("eight hands", 1, full.least(1, 0));
        Nets.tell(full, "hands 9");
        doc.due("nine hands", 1, full.least(1, 0));
        // The 90 can be saved a TURN later, the two of 10 only by the room ahead of them, at once.
        WettedNet later = Nets.of("rooms 6;way 0 1;way 0 2;way 2 3;way 1 4;way 1 5;folk 3 90;folk 4 10;folk 5 10");
        doc.due("a later TURN", 2, later.least(1, 0));
    }

    private void firstWet() {
        doc.says(TERMS, "FIRST WET: a set that may become WET in the first TURN for it; the least number; how many such sets there are.");
        WettedNet lone = Nets.of(Nets.LONE9);
        doc.due("any room", 2, lone.least(1, 1));
        doc.due("any of eight", 8, lone.least(1, 2));
        doc.due("no fire, any of nine", 9, lone.least(0, 2));
        doc.due("all burns: the empty set", 0, lone.least(511, 1));
        doc.due("all burns: it alone", 1, lone.least(511, 2));
        doc.due("one is left", 256, lone.least(255, 1));
        Nets.tell(lone, "hands 4");
        doc.due("any four", 15, lone.least(0, 1));
        doc.due("as many as four of nine", 126, lone.least(0, 2));
        doc.due("as four of eight", 70, lone.least(1, 2));
        Nets.tell(lone, "hands 9");
        doc.due("all nine", 511, lone.least(0, 1));
        doc.due("all nine at once", 1, lone.least(0, 2));
        doc.due("all that do not burn", 511 - 16, lone.least(16, 1));
        WettedNet path = Nets.of(Nets.PATH5);
        doc.due("of two the lesser", 2, path.least(4, 1));
        doc.due("two of them", 2, path.least(4, 2));
        doc.due("one of them", 1, path.least(1, 2));
    }

    private void hold() {
        doc.says(TERMS, "HOLD: the least h (1 .. 9) by which LEAST LOST is k at most; none.");
        WettedNet star = Nets.of(Nets.STAR9);
        doc.due("all may be lost", 1, star.hold(1, 9));
        doc.due("all but one", 1, star.hold(1, 8));
        for (int h = 2; h <= 8; h++) {
            doc.due("just " + h, h, star.hold(1, 9 - h));
        }
        doc.due("none holds what burns", NONE, star.hold(1, 0));
        doc.due("nothing burns", 1, star.hold(0, 0));
        doc.due("all burns", 1, star.hold(511, 9));
        doc.due("all burns, one too many", NONE, star.hold(511, 8));
        Nets.tell(star, "folk 0 0");
        doc.due("no FOLK where it burns", 8, star.hold(1, 0));
    }

    private void play() {
        doc.says(TERMS, "A PLAY is begun with a FIRE, HANDS wetting; its TURNS are told by what becomes WET.");
        WettedNet path = Nets.of(Nets.PATH5, "hands 2");
        path.begin(4);
        doc.due("HANDS are two", NOT, path.wets(8));
        doc.due("no TURN was that", 0, path.play(2));
        doc.due("two become WET", 4, path.wets(10));
        doc.due("one TURN", 1, path.play(2));
        path.begin(1);
        doc.due("begun anew: the FIRE", 1, path.play(0));
        doc.due("begun anew: nothing WET", 0, path.play(1));
        doc.due("begun anew: no TURNS", 0, path.play(2));
        doc.due("begun anew: not ended", 0, path.play(3));
        doc.due("begun anew: none BAD", 0, path.play(4));
        doc.due("HOLD wets by other HANDS", 1, path.hold(1, 5));
        doc.due("but not the PLAY", 1, path.wets(18));
    }

    private void bad() {
        doc.says(TERMS, "BAD is a TURN behind which LEAST LOST is more than ahead of it.");
        WettedNet ways = Nets.of(Nets.WAYS9);
        doc.due("one need be lost", 1, ways.begin(1));
        int wet = 256;
        int bad = 0;
        for (int turn = 0; turn < 4; turn++) {
            ways.wets(wet);
            wet >>= 1;
            bad |= 1 << turn;
            doc.due("BAD up to TURN " + turn, bad, ways.play(4));
        }
        doc.due("none is left to be WET", 31, ways.wets(0));
        doc.due("the last TURN is not BAD", 15, ways.play(4));
        doc.due("five TURNS", 5, ways.play(2));
        WettedNet same = Nets.of(Nets.PATH5);
        same.begin(4);
        same.wets(8);
        doc.due("as much as ahead is not BAD", 0, same.play(4));
        same.wets(16);
        doc.due("a BAD one in the midst", 2, same.play(4));
        WettedNet none = Nets.of(Nets.PATH5, Nets.forEach("folk", 5, 0));
        none.begin(1);
        none.wets(16);
        doc.due("no FOLK, nothing BAD", 0, none.play(4));
    }
}
