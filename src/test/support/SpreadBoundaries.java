/** The Terms' sentences about sparks, catching and forcing. */
final class SpreadBoundaries {
    private static final int NONE = -1;
    private static final String TERMS = "Terms";

    private final Sentences doc;

    SpreadBoundaries(Sentences doc) {
        this.doc = doc;
    }

    void run() {
        sparks();
        fewestSparks();
        rowOfSparks();
        catching();
        caughtInTheEnd();
        seeds();
        ahead();
        forcing();
        forcedInTheEnd();
        forcers();
        cheap();
    }

    // ---- sparks

    private void sparks() {
        doc.says(TERMS, "SPARKS: nothing burns; in each TURN each ROOM BESIDE one that burns burns, then one ROOM more, where a SPARK"
                + " is thrown (one that does not burn; none, if all do).");
        WettedNet one = new WettedNet();
        doc.due("one room: a TURN", 1, one.sparks(-1));
        doc.due("one room: it", 0, one.sparks(0));
        doc.due("one room: no more", NONE, one.sparks(1));
        WettedNet way = Nets.of("rooms 2;way 0 1");
        doc.due("burning on takes a TURN", 2, way.sparks(-1));
        doc.due("where the WAY begins", 0, way.sparks(0));
        doc.due("all burn, so none is thrown", NONE, way.sparks(1));
        WettedNet back = Nets.of("rooms 2;way 1 0");
        doc.due("0 ahead of 1", 0, back.sparks(0));
        doc.due("not BESIDE 0, so one more", 1, back.sparks(1));
        WettedNet full = Nets.full(9);
        doc.due("all at once", 2, full.sparks(-1));
        doc.due("any room, so 0", 0, full.sparks(0));
        doc.due("none behind it", NONE, full.sparks(1));
    }

    private void fewestSparks() {
        doc.says(TERMS, "FEWEST SPARKS: how many TURNS till all burns, at the least; the first row of SPARKS (by numbers; shorter ones"
                + " end with none).");
        WettedNet lone = Nets.of(Nets.LONE9);
        doc.due("the most TURNS", 9, lone.sparks(-1));
        for (int i = 0; i < 9; i++) {
            doc.due("by numbers", i, lone.sparks(i));
        }
        doc.due("there is no tenth", NONE, lone.sparks(9));
        WettedNet path = Nets.of(Nets.PATH9);
        // Sparks 2, 6, 8 reach 0 .. 4, 5 .. 7 (with 4) and 8 in their three turns; no first spark below 2 leaves so little.
        doc.due("a path of nine", 3, path.sparks(-1));
        doc.due("its first spark", 2, path.sparks(0));
        doc.due("its second", 6, path.sparks(1));
        doc.due("its third", 8, path.sparks(2));
        doc.due("no fourth", NONE, path.sparks(3));
        WettedNet star = Nets.of(Nets.STAR9);
        doc.due("a star", 2, star.sparks(-1));
        doc.due("a row of one SPARK", 0, star.sparks(0));
        doc.due("ends with none", NONE, star.sparks(1));
        doc.due("and goes on so", NONE, star.sparks(2));
    }

    private void rowOfSparks() {
        doc.says(TERMS, "A ROW of SPARKS is told (they may fall where it burns); behind it only what burns goes on: the TURN (1, 2, ..)"
                + " in which a ROOM burns; none.");
        WettedNet path = Nets.of(Nets.PATH5);
        doc.due("TURN 1", 1, path.when(0, 1, 0));
        doc.due("TURN 2", 2, path.when(0, 1, 1));
        doc.due("behind the row", 5, path.when(0, 1, 4));
        doc.due("where it burns already", 5, path.when(0x00, 2, 4));
        doc.due("where it came to burn", 2, path.when(0x10, 2, 1));
        doc.due("a SPARK that comes too late", 3, path.when(0x4000, 4, 2));
        WettedNet lone = Nets.of(Nets.LONE9);
        doc.due("none", NONE, lone.when(0x76543210, 8, 8));
        doc.due("the eighth", 8, lone.when(0x87654321, 8, 8));
        WettedNet late = Nets.of("rooms 9;way 1 2;way 2 3;way 3 4;way 4 5;way 5 6;way 6 7;way 7 8");
        doc.due("the latest that can be", 15, late.when(0x10000000, 8, 8));
        doc.due("burning comes ahead of the SPARK", 3, Nets.of("rooms 3;way 0 1;way 1 2").when(0x00, 1, 2));
    }

    // ---- catching

    private void catching() {
        doc.says(TERMS, "CATCHING from a set: in each TURN each ROOM burns, if so many as it is THICK (or more) of those AT it burn.");
        WettedNet star = Nets.of(Nets.STAR9);
        for (int thick = 1; thick <= 9; thick++) {
            Nets.tell(star, "thick 0 " + thick);
            doc.due("eight burn, THICK " + thick, thick <= 8 ? 1 : NONE, star.caught(510, 0));
            doc.due("seven burn, THICK " + thick, thick <= 7 ? 1 : NONE, star.caught(508, 0));
            doc.due("one burns, THICK " + thick, thick <= 1 ? 1 : NONE, star.caught(2, 0));
        }
        doc.due("of the set, however THICK", 0, star.caught(1, 0));
        WettedNet way = Nets.of("rooms 2;way 0 1");
        doc.due("from those AT it", 3, way.caught(1, -1));
        doc.due("not from those BESIDE it", 2, way.caught(2, -1));
        doc.due("none AT it", NONE, way.caught(2, 0));
        // Room 2 has one of its two only behind the first turn.
        doc.due("all by what burned ahead of the TURN", 2, Nets.of("rooms 3;way 0 1;way 0 2;way 1 2;thick 2 2").caught(1, 2));
    }

    private void caughtInTheEnd() {
        doc.says(TERMS, "All that burn in the end; the TURN of each (0: of the set); none.");
        WettedNet path = Nets.of(Nets.PATH9);
        doc.due("all in the end", 511, path.caught(1, -1));
        for (int r = 0; r < 9; r++) {
            doc.due("TURN of each", r, path.caught(1, r));
        }
        doc.due("from nothing nothing", 0, path.caught(0, -1));
        doc.due("from nothing none", NONE, path.caught(0, 0));
        doc.due("all at first", 511, path.caught(511, -1));
        doc.due("all at first, TURN 0", 0, path.caught(511, 8));
        WettedNet lone = Nets.of(Nets.LONE9);
        doc.due("it stays as it is", 256, lone.caught(256, -1));
        doc.due("none", NONE, lone.caught(256, 7));
    }

    private void seeds() {
        doc.says(TERMS, "SEEDS within t TURNS (1 .. 9): a least set from which all burn by then: how many ROOMS; the least number;"
                + " how many such sets.");
        WettedNet path = Nets.of(Nets.PATH9);
        doc.due("within 1: rooms", 3, path.seeds(1, 0));
        doc.due("within 1: the set", 146, path.seeds(1, 1));
        doc.due("within 1: it alone", 1, path.seeds(1, 2));
        doc.due("within 7: not from an end", 2, path.seeds(7, 1));
        doc.due("within 7: all but the ends", 7, path.seeds(7, 2));
        doc.due("within 8: from an end", 1, path.seeds(8, 1));
        doc.due("within 8: from each", 9, path.seeds(8, 2));
        doc.due("within 9: from each", 9, path.seeds(9, 2));
        WettedNet ways = Nets.of(Nets.WAYS9);
        doc.due("within 7 by ways: two rooms", 2, ways.seeds(7, 0));
        doc.due("within 7 by ways: 0 and 1", 3, ways.seeds(7, 1));
        doc.due("within 7 by ways: 0 and any", 8, ways.seeds(7, 2));
        doc.due("within 8 by ways: 0", 1, ways.seeds(8, 2));
        WettedNet lone = Nets.of(Nets.LONE9);
        doc.due("all rooms", 9, lone.seeds(9, 0));
        doc.due("all rooms", 511, lone.seeds(9, 1));
        doc.due("all rooms", 1, lone.seeds(9, 2));
        WettedNet one = Nets.of("thick 0 9");
        doc.due("never the empty set", 1, one.seeds(1, 1));
        WettedNet full = Nets.full(9);
        doc.due("any one", 9, full.seeds(1, 2));
        Nets.tell(full, Nets.forEach("thick", 9, 4));
        doc.due("any four", 15, full.seeds(1, 1));
        doc.due("of any four", 126, full.seeds(1, 2));
    }

    private void ahead() {
        doc.says(TERMS, "AHEAD for a set and k: the fewest ROOMS, none of the set, that are WET ahead, so that CATCHING from it loses"
                + " FOLK of k at most; of several the least number; none.");
        WettedNet path = Nets.of(Nets.PATH5);
        doc.due("none need be WET", 0, path.ahead(1, 5));
        doc.due("one too many", 2, path.ahead(1, 4));
        doc.due("just what burns at first", 2, path.ahead(1, 1));
        doc.due("less than burns at first", NONE, path.ahead(1, 0));
        doc.due("both sides", 10, path.ahead(4, 1));
        doc.due("of several the least", 9, path.ahead(4, 2));
        doc.due("one is fewer", 2, path.ahead(4, 3));
        doc.due("nothing burns", 0, path.ahead(0, 0));
        doc.due("all burns", 0, path.ahead(31, 5));
        doc.due("all burns, none of the set may be WET", NONE, path.ahead(31, 4));
        WettedNet star = Nets.of(Nets.STAR9, "folk 0 0");
        doc.due("all eight", 510, star.ahead(1, 0));
        doc.due("seven of eight", 254, star.ahead(1, 1));
        doc.due("the middle", 1, star.ahead(256, 1));
        // Room 0 does not catch from one alone, so that none need be WET.
        Nets.tell(star, "thick 0 2");
        doc.due("THICK matters", 0, star.ahead(256, 1));
        doc.due("THICK is reached", 1, star.ahead(384, 2));
        WettedNet most = Nets.of(Nets.LONE9, Nets.forEach("folk", 9, 99));
        doc.due("just all FOLK", 0, most.ahead(511, 891));
        doc.due("one less", NONE, most.ahead(511, 890));
    }

    // ---- forcing

    private void forcing() {
        doc.says(TERMS, "FORCING from a set: in each ROUND each ROOM that burns and all but one of those BESIDE which burn forces that"
                + " one; all at once.");
        WettedNet star = Nets.of(Nets.STAR5);
        doc.due("four are left", 1, star.forced(1, -1, 0));
        doc.due("two are left", 7, star.forced(7, -1, 0));
        doc.due("one is left", 31, star.forced(15, -1, 0));
        doc.due("none is left", 31, star.forced(31, -1, 0));
        doc.due("one is left to each of four", 31, star.forced(30, -1, 0));
        doc.due("who does not burn forces none", 2, Nets.of("rooms 3;way 0 1;way 0 2").forced(2, -1, 0));
        doc.due("none BESIDE it", 1, Nets.of(Nets.LONE9).forced(1, -1, 0));
        WettedNet path = Nets.of(Nets.PATH5);
        doc.due("all at once: from both ends", 2, path.forced(17, 2, 0));
        doc.due("all at once: not on in the same ROUND", 2, path.forced(1, 2, 0));
        WettedNet way = Nets.of("rooms 3;way 0 1;way 2 0");
        doc.due("BESIDE alone counts, not AT", 3, way.forced(1, -1, 0));
        doc.due("THICK does not matter", 3, Nets.of("rooms 2;way 0 1;thick 1 9").forced(1, -1, 0));
    }

    private void forcedInTheEnd() {
        doc.says(TERMS, "All that burn in the end; the ROUND of each (0: of the set), by which (the least ROOM that forces it then;"
                + " none: of the set).");
        WettedNet path = Nets.of(Nets.PATH9);
        doc.due("all in the end", 511, path.forced(1, -1, 0));
        doc.due("of the set", 0, path.forced(1, 0, 0));
        doc.due("of the set, by none", NONE, path.forced(1, 0, 1));
        for (int r = 1; r < 9; r++) {
            doc.due("ROUND of each", r, path.forced(1, r, 0));
            doc.due("by the one ahead", r - 1, path.forced(1, r, 1));
        }
        doc.due("by the least of two", 3, path.forced(257, 4, 1));
        doc.due("never", NONE, path.forced(16, 0, 0));
        doc.due("never, by none", NONE, path.forced(16, 0, 1));
        doc.due("an empty set", 0, path.forced(0, -1, 0));
        doc.due("an empty set's none", NONE, path.forced(0, 8, 0));
        WettedNet then = Nets.of("rooms 5;way 4 2;way 0 1;way 0 2");
        doc.due("first by 4", 1, then.forced(17, 2, 0));
        doc.due("0 could only later", 4, then.forced(17, 2, 1));
        doc.due("0 forces the other one later", 2, then.forced(17, 1, 0));
        doc.due("by room 0", 0, then.forced(17, 1, 1));
        doc.due("by the least of eight", 1, Nets.of(Nets.STAR9).forced(510, 0, 1));
    }

    private void forcers() {
        doc.says(TERMS, "FORCERS: a least set from which all burn: how many ROOMS; the least number; how many such sets.");
        WettedNet one = new WettedNet();
        doc.due("one room", 1, one.forcers(0));
        doc.due("it", 1, one.forcers(1));
        doc.due("it alone", 1, one.forcers(2));
        WettedNet full = Nets.full(9);
        doc.due("all but one", 8, full.forcers(0));
        doc.due("all but the last", 255, full.forcers(1));
        doc.due("nine such sets", 9, full.forcers(2));
        WettedNet lone = Nets.of(Nets.LONE9);
        doc.due("all nine", 9, lone.forcers(0));
        doc.due("the full set", 511, lone.forcers(1));
        doc.due("it alone", 1, lone.forcers(2));
        WettedNet path = Nets.of(Nets.PATH9);
        doc.due("an end", 1, path.forcers(1));
        doc.due("two ends", 2, path.forcers(2));
        doc.due("the one end of ways", 1, Nets.of(Nets.WAYS9).forcers(2));
        doc.due("the last room", 2, Nets.of("rooms 2;way 1 0").forcers(1));
    }

    private void cheap() {
        doc.says(TERMS, "CHEAP: of sets from which all burn so many ROOMS and ROUNDS together, at the least; the least number.");
        WettedNet lone = Nets.of(Nets.LONE9);
        doc.due("no ROUNDS", 9, lone.forcers(3));
        doc.due("all nine", 511, lone.forcers(4));
        WettedNet full = Nets.full(9);
        doc.due("eight and one, or nine", 9, full.forcers(3));
        doc.due("of both the least", 255, full.forcers(4));
        WettedNet path = Nets.of(Nets.PATH5);
        doc.due("two rooms and two ROUNDS", 4, path.forcers(3));
        doc.due("not the fewest rooms", 6, path.forcers(4));
        WettedNet one = new WettedNet();
        doc.due("one room, no ROUND", 1, one.forcers(3));
        doc.due("it", 1, one.forcers(4));
        WettedNet two = Nets.of("rooms 2;way 1 0");
        doc.due("a room and a ROUND, or two rooms", 2, two.forcers(3));
        doc.due("of both the least", 2, two.forcers(4));
        Nets.tell(path, Nets.LONE9);
        doc.due("no ROUNDS behind a net with some", 9, path.forcers(3));
        doc.due("all nine of it", 511, path.forcers(4));
    }
}
