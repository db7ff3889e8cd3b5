/** The Terms' sentences about rooms, ways and THE TEXT. */
final class TextBoundaries {
    private static final int NONE = -1, UNKNOWN = -2, FULL = -5;
    private static final String TERMS = "Terms";
    private static final String[] TWO = {"door", "way", "shut", "folk", "thick"};
    private static final String[] ONE = {"rooms", "hands", "chance"};

    private final Sentences doc;

    TextBoundaries(Sentences doc) {
        this.doc = doc;
    }

    void run() {
        rooms();
        ways();
        folkAndThick();
        handsAndChance();
        besideAndAt();
        even();
        bytes();
        lines();
        words();
        points();
        roomsLine();
        roomsThatThereAre();
        wayAndShut();
        letters();
        digits();
        blanks();
        earlierTexts();
        faults();
        order();
    }

    private static String twelve() {
        return "hands1;".repeat(11) + "hands1";
    }

    // ---- the net

    private void rooms() {
        doc.says(TERMS, "9; 1 at first);");
        WettedNet one = new WettedNet();
        doc.due("one at first", 1, one.count(0));
        doc.due("room 0 is there", 1, one.room(0, 3));
        doc.due("room 1 is not", UNKNOWN, one.room(1, 3));
        doc.due("1 at the least", 1, Nets.of("rooms 1").count(0));
        doc.due("9 at the most", 9, Nets.of("rooms 9").count(0));
        doc.dueFault("rooms 0", 6);
        doc.dueFault("rooms 10", 6);
        for (int n = 1; n <= 9; n++) {
            WettedNet x = Nets.of("rooms " + n);
            doc.due("the last of " + n, 1, x.room(n - 1, 2));
            doc.due("one behind the last of " + n, UNKNOWN, x.room(n, 2));
            doc.due("one ahead of the first of " + n, UNKNOWN, x.room(-1, 2));
        }
    }

    private void ways() {
        doc.says(TERMS, "WAYS go from a ROOM to another one (none at first); a DOOR is both.");
        doc.due("none at first", 0, new WettedNet().count(1));
        doc.due("none among nine", 0, Nets.of(Nets.LONE9).count(1));
        doc.dueFault("rooms 9;way 8 8", 14);
        doc.dueFault("rooms 9;door 0 0", 15);
        doc.due("as many as can be", 72, Nets.full(9).count(1));
        doc.due("a door", 2, Nets.of("rooms 2;door 0 1").count(1));
        doc.due("a way", 1, Nets.of("rooms 2;way 0 1").count(1));
        doc.due("a door where a way was", 2, Nets.of("rooms 2;way 1 0;door 0 1").count(1));
        doc.due("two ways are a door", 1, Nets.of("rooms 2;way 1 0;way 0 1").count(6));
    }

    private void folkAndThick() {
        doc.says(TERMS, "Each ROOM has FOLK (0 .. 99; 1 at first) and is THICK (1 .. 9; 1 at first).");
        WettedNet nine = Nets.of(Nets.LONE9);
        for (int r = 0; r < 9; r++) {
            doc.due("FOLK at first", 1, nine.room(r, 2));
            doc.due("THICK at first", 1, nine.room(r, 3));
        }
        doc.due("no FOLK", 0, Nets.of("folk 0 0").room(0, 2));
        doc.due("most FOLK", 99, Nets.of("folk 0 99").room(0, 2));
        doc.dueFault("folk 0 100", 7);
        doc.due("least THICK", 1, Nets.of("thick 0 5;thick 0 1").room(0, 3));
        doc.due("most THICK", 9, Nets.of("thick 0 9").room(0, 3));
        doc.dueFault("thick 0 0", 8);
        doc.dueFault("thick 0 10", 8);
        doc.due("all FOLK that can be", 891, Nets.of(Nets.LONE9, Nets.forEach("folk", 9, 99)).count(5));
        doc.due("none at all", 0, Nets.of(Nets.LONE9, Nets.forEach("folk", 9, 0)).count(5));
    }

    private void handsAndChance() {
        doc.says(TERMS, "HANDS are 1 .. 9 (1 at first), CHANCE is 1 .. 10 tenths (10 at first).");
        doc.due("HANDS at first", 1, new WettedNet().count(3));
        doc.due("CHANCE at first", 10, new WettedNet().count(4));
        doc.due("most HANDS", 9, Nets.of("hands 9").count(3));
        doc.due("least HANDS", 1, Nets.of("hands 9", "hands 1").count(3));
        doc.due("least CHANCE", 1, Nets.of("chance 1").count(4));
        doc.due("most CHANCE", 10, Nets.of("chance 1", "chance 10").count(4));
        doc.dueFault("hands 0", 6);
        doc.dueFault("hands 10", 6);
        doc.dueFault("chance 0", 7);
        doc.dueFault("chance 11", 7);
        doc.due("by tenths", 10, Nets.of("rooms 2;way 0 1;chance 1").carried(0, 1, 1));
    }

    private void besideAndAt() {
        doc.says(TERMS, "BESIDE a ROOM are those to which a WAY goes from it, AT it those from which one goes to it.");
        WettedNet one = Nets.of("rooms 9;way 0 8");
        doc.due("BESIDE 0", 256, one.room(0, 0));
        doc.due("none AT 0", 0, one.room(0, 1));
        doc.due("none BESIDE 8", 0, one.room(8, 0));
        doc.due("AT 8", 1, one.room(8, 1));
        WettedNet full = Nets.full(9);
        doc.due("all others BESIDE 0", 510, full.room(0, 0));
        doc.due("all others AT 8", 255, full.room(8, 1));
        doc.due("never itself", 511 - 16, full.room(4, 0));
    }

    private void even() {
        doc.says(TERMS, "A net is EVEN, if each WAY has the one back.");
        doc.due("no WAYS", 1, new WettedNet().count(6));
        doc.due("no WAYS among nine", 1, Nets.of(Nets.LONE9).count(6));
        WettedNet full = Nets.full(9);
        doc.due("all WAYS", 1, full.count(6));
        Nets.tell(full, "shut 7 8;way 8 7");
        doc.due("all but one", 0, full.count(6));
        Nets.tell(full, "way 7 8");
        doc.due("all again", 1, full.count(6));
        doc.due("a ring of ways", 0, Nets.of("rooms 3;way 0 1;way 1 2;way 2 0").count(6));
    }

    // ---- THE TEXT

    private void bytes() {
        doc.says(TERMS, "THE TEXT is a row of bytes, 200 at most:");
        WettedNet x = new WettedNet();
        Check.put(x, "hands 1" + " ".repeat(192));
        doc.due("199", 199, x.count(2));
        doc.due("200 at most", 200, x.write(' ', 1));
        doc.due("and no more", FULL, x.write(' ', 1));
        doc.due("200 are read", NONE, x.fault());
        doc.due("and told", 1, x.net());
        WettedNet last = new WettedNet();
        Check.put(last, " ".repeat(192) + "hands 12");
        doc.due("also the last of them", 198, last.fault());
    }

    private void lines() {
        doc.says(TERMS, "LINES with ; (59) between, 1 to 12 (an empty TEXT ends too soon; behind the 12th no ; can stand);");
        doc.dueFault("", 0);
        doc.dueFault("hands1", NONE);
        doc.dueFault(twelve(), NONE);
        doc.due("twelve are done", 12, Nets.tell(new WettedNet(), twelve()));
        doc.dueFault(twelve() + ";hands1", 83);
        doc.dueFault(twelve() + ";", 83);
        doc.dueFault(twelve() + "  ;", 85);
        doc.dueFault(twelve().substring(7) + ";", 77);
        doc.dueFault(";", 0);
        doc.dueFault(";hands1", 0);
        doc.dueFault("hands1;", 7);
        doc.dueFault("hands1;;hands1", 7);
        doc.dueFault("hands1 hands1", 7);
        doc.dueFault("hands1" + (char) 58 + "hands1", 6);
        doc.dueFault("hands1" + (char) 59 + "hands1", NONE);
        doc.dueFault("hands1" + (char) 60 + "hands1", 6);
    }

    private void words() {
        doc.says(TERMS, "each is one of: rooms N. door A B. way A B. shut A B. folk A N. thick A N. hands N. chance N.");
        for (String word : ONE) {
            int end = word.length() + 1;
            doc.dueFault(word + " 1", NONE);
            doc.dueFault(word, end - 1);
            doc.dueFault(word + " ;", end);
            doc.dueFault(word + " 1 1", end + 2);
        }
        for (String word : TWO) {
            int end = 8 + word.length() + 1;
            doc.dueFault("rooms 2;" + word + " 0 1", NONE);
            doc.dueFault("rooms 2;" + word, end - 1);
            doc.dueFault("rooms 2;" + word + " 0", end + 1);
            doc.dueFault("rooms 2;" + word + " 0;", end + 1);
            doc.dueFault("rooms 2;" + word + " 0 1 1", end + 4);
        }
        doc.dueFault("room 1", 0);
        doc.dueFault("roomss 1", 0);
        doc.dueFault("ways 0 1", 0);
        doc.dueFault("a 1", 0);
        doc.dueFault("1 rooms", 0);
        eachLineAlone();
    }

    /** What each line changes of ROOMS, WAYS, HANDS, CHANCE, all FOLK and EVEN, and of room 1's FOLK and THICK; all else stays. */
    private void eachLineAlone() {
        String[] lines = {"rooms 3", "door 0 1", "way 1 0", "shut 1 2", "folk 1 7", "thick 1 4", "hands 6", "chance 2"};
        int[][] want = {{3, 0, 5, 9, 3, 1, 1, 1}, {4, 4, 5, 9, 7, 1, 4, 3}, {4, 3, 5, 9, 7, 0, 4, 3}, {4, 0, 5, 9, 7, 1, 4, 3},
            {4, 2, 5, 9, 10, 1, 7, 3}, {4, 2, 5, 9, 7, 1, 4, 4}, {4, 2, 6, 9, 7, 1, 4, 3}, {4, 2, 5, 2, 7, 1, 4, 3}};
        int[] counts = {0, 1, 3, 4, 5, 6};
        for (int i = 0; i < lines.length; i++) {
            WettedNet x = Nets.of("rooms 4;door 1 2;folk 1 4;thick 1 3;hands 5;chance 9", lines[i]);
            for (int j = 0; j < counts.length; j++) {
                doc.due(lines[i] + ": count " + counts[j], want[i][j], x.count(counts[j]));
            }
            doc.due(lines[i] + ": FOLK of room 1", want[i][6], x.room(1, 2));
            doc.due(lines[i] + ": THICK of room 1", want[i][7], x.room(1, 3));
        }
    }

    private void points() {
        doc.says(TERMS, "(As written here, without points;");
        doc.dueFault("hands 1.", 7);
        doc.dueFault("hands.1", 5);
        doc.dueFault(".", 0);
        doc.dueFault("Hands 1", 0);
        doc.dueFault("HANDS 1", 0);
    }

    private void roomsLine() {
        doc.says(TERMS, "rooms: so many, no WAYS, FOLK and THICK as at first;");
        WettedNet x = Nets.full(9);
        Nets.tell(x, Nets.forEach("folk", 9, 0) + ";hands 4;chance 2");
        Nets.tell(x, Nets.forEach("thick", 9, 9));
        doc.due("the same number too", 1, Nets.tell(x, "rooms 9"));
        doc.due("so many", 9, x.count(0));
        doc.due("no WAYS", 0, x.count(1));
        for (int r = 0; r < 9; r++) {
            doc.due("FOLK as at first", 1, x.room(r, 2));
            doc.due("THICK as at first", 1, x.room(r, 3));
        }
        doc.due("HANDS are not named", 4, x.count(3));
        doc.due("nor is CHANCE", 2, x.count(4));
        Nets.tell(x, "door 0 8;folk 8 9;thick 8 9;rooms 1;rooms 9");
        doc.due("what rooms lost stays lost", 0, x.room(8, 0));
        doc.due("FOLK too", 1, x.room(8, 2));
        doc.due("THICK too", 1, x.room(8, 3));
    }

    private void roomsThatThereAre() {
        doc.says(TERMS, "A, B unlike ROOMS that there are then (by the last rooms LINE ahead, or as they are);");
        for (String word : new String[] {"door", "way", "shut"}) {
            int first = 9 + word.length();
            doc.dueFault("rooms 3;" + word + " 0 2", NONE);
            doc.dueFault("rooms 3;" + word + " 2 0", NONE);
            doc.dueFault("rooms 3;" + word + " 3 0", first);
            doc.dueFault("rooms 3;" + word + " 0 3", first + 2);
            doc.dueFault("rooms 3;" + word + " 2 2", first + 2);
            doc.dueFault("rooms 3;" + word + " 02 2", first + 3);
            doc.dueFault("rooms 3;" + word + " 3 3", first);
        }
        doc.dueFault("folk 0 1", NONE);
        doc.dueFault("folk 1 1", 5);
        doc.dueFault("thick 1 1", 6);
        doc.dueFault("rooms 9;folk 8 8", NONE);
        doc.dueFault("rooms 9;folk 9 9", 13);
        doc.dueFault("rooms 2;rooms 9;rooms 3;folk 2 0", NONE);
        doc.dueFault("rooms 2;rooms 9;rooms 3;folk 3 0", 29);
        doc.dueFault("folk 1 0;rooms 2", 5);
        WettedNet x = Nets.of("rooms 4");
        doc.due("as they are", NONE, Check.faultOf(x, "folk 3 0"));
        doc.due("as they are, and no more", 5, Check.faultOf(x, "folk 4 0"));
        doc.due("less by a LINE ahead", 13, Check.faultOf(x, "rooms 3;folk 3 0"));
    }

    private void wayAndShut() {
        doc.says(TERMS, "way: from A to B; shut: neither way;");
        WettedNet x = Nets.of("rooms 3;way 2 1");
        doc.due("from A", 2, x.room(2, 0));
        doc.due("not from B", 0, x.room(1, 0));
        Nets.tell(x, "way 2 1;way 2 1");
        doc.due("told again", 1, x.count(1));
        Nets.tell(x, "shut 1 2");
        doc.due("shut from the other side", 0, x.count(1));
        Nets.tell(x, "shut 1 2;shut 2 1");
        doc.due("shut where there is none", 0, x.count(1));
        Nets.tell(x, "door 0 1;door 1 2;shut 1 0");
        doc.due("both ways, and no others", 2, x.count(1));
        doc.due("nothing BESIDE 0", 0, x.room(0, 0));
        doc.due("nothing AT 0", 0, x.room(0, 1));
    }

    private void letters() {
        doc.says(TERMS, "small letters a .. z,");
        // Bytes beside a and z are tokens of their own, so the word ends ahead of them.
        doc.dueFault("hands" + (char) 96 + "1", 5);
        doc.dueFault("hands" + (char) 97 + "1", 0);
        doc.dueFault("hands" + (char) 122 + "1", 0);
        doc.dueFault("hands" + (char) 123 + "1", 5);
        doc.dueFault("hands1" + (char) 96, 6);
        doc.dueFault("handS 1", 0);
        doc.dueFault("hands1;Hands1", 7);
        doc.dueFault((char) ('h' | 128) + "ands 1", 0);
    }

    private void digits() {
        doc.says(TERMS, "numbers of 1 or 2 digits,");
        doc.dueFault("hands ", 6);
        doc.dueFault("hands 7", NONE);
        doc.dueFault("hands 07", NONE);
        doc.dueFault("hands 007", 6);
        doc.dueFault("folk 00 00", NONE);
        doc.dueFault("folk 0 000", 7);
        doc.dueFault("folk 000 0", 5);
        doc.dueFault("chance 010", 7);
        doc.dueFault("folk 0 " + (char) 47, 7);
        doc.dueFault("folk 0 " + (char) 48, NONE);
        doc.dueFault("folk 0 " + (char) 57, NONE);
        doc.dueFault("folk 0 " + (char) 58, 7);
        doc.dueFault("folk 0 -1", 7);
        doc.dueFault("folk 0 4294967297", 7);
        doc.dueFault("folk 0 " + "0".repeat(193), 7);
        doc.due("07 is 7", 7, Nets.of("hands 07").count(3));
    }

    private void blanks() {
        doc.says(TERMS, "blanks (32) may stand ahead of, between and behind TOKENS, none is needed but between two words, two numbers;");
        doc.dueFault("rooms2;door0 1;folk1 99", NONE);
        doc.dueFault("  rooms  2  ;  door  0  1  ", NONE);
        doc.dueFault("rooms2;door01", 13);
        doc.dueFault("rooms2;folk1 1", NONE);
        doc.dueFault("rooms2;folk11", 11);
        doc.dueFault("handshands1", 0);
        doc.dueFault("ha nds1", 0);
        doc.dueFault("folk0 1 2", 8);
        for (int other : new int[] {0, 9, 10, 13, 31, 33, 160}) {
            doc.dueFault("hands" + (char) other + "1", 5);
            doc.dueFault((char) other + "hands1", 0);
            doc.dueFault("hands1" + (char) other, 6);
        }
        doc.dueFault(" ".repeat(194) + "hands1", NONE);
        doc.dueFault("hands1" + " ".repeat(194), NONE);
        doc.dueFault("hands" + " ".repeat(194) + "1", NONE);
        doc.dueFault(" ".repeat(200), 200);
    }

    private void earlierTexts() {
        doc.says(TERMS, "what earlier texts told stays.)");
        WettedNet x = Nets.of("rooms 9;door 0 8;folk 8 0;thick 8 9;hands 9;chance 1", "way 3 4");
        doc.due("rooms", 9, x.count(0));
        doc.due("ways", 3, x.count(1));
        doc.due("FOLK", 0, x.room(8, 2));
        doc.due("THICK", 9, x.room(8, 3));
        doc.due("HANDS", 9, x.count(3));
        doc.due("CHANCE", 1, x.count(4));
    }

    private void faults() {
        doc.says(TERMS, "A FAULT is at the first TOKEN (a row of small letters, a row of digits, any other byte) that cannot stand"
                + " there (a number out of its bounds, of more digits, also), or at the end, if it comes too soon.");
        doc.dueFault("folk 1 100", 5);
        doc.dueFault("zzz zzz", 0);
        doc.dueFault("  zzz", 2);
        doc.dueFault("folk folk", 5);
        doc.dueFault("folk 0 99 99", 10);
        doc.dueFault("12;hands 1", 0);
        doc.dueFault("hands 123456", 6);
        doc.dueFault("hands 1,,", 7);
        doc.dueFault("hands 1" + (char) 255 + (char) 255, 7);
        doc.dueFault("hands 1;folk 0", 14);
        doc.dueFault("hands 1;folk 0   ", 17);
        doc.dueFault("hands 1;", 8);
        doc.dueFault("hands 10;zzz", 6);
        doc.dueFault("hands1;" + "rooms1;".repeat(11) + "zzz", 83);
        doc.dueFault("folk0", 5);
    }

    private void order() {
        doc.says(TERMS, "LINES are done in their order.");
        doc.due("the last one stays", 3, Nets.of("hands 9;hands 1;hands 3").count(3));
        doc.due("shut behind door", 0, Nets.of("rooms 2;door 0 1;shut 0 1").count(1));
        doc.due("door behind shut", 2, Nets.of("rooms 2;shut 0 1;door 0 1").count(1));
        doc.due("rooms behind folk", 1, Nets.of("folk 0 9;rooms 1").room(0, 2));
        doc.due("folk behind rooms", 9, Nets.of("rooms 1;folk 0 9").room(0, 2));
        doc.due("the twelfth behind the eleventh", 2, Nets.of("hands1;".repeat(10) + "hands9;hands2").count(3));
    }
}
