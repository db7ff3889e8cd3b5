/** The Terms' sentences about chances, tokens and pairs. */
final class ChanceBoundaries {
    private static final int NONE = -1, NOT = -4;
    private static final String TERMS = "Terms";

    private final Sentences doc;

    ChanceBoundaries(Sentences doc) {
        this.doc = doc;
    }

    void run() {
        carried();
        tenWays();
        token();
        length();
        step();
        alone();
        pairs();
        parts();
    }

    private void dueParts(String call, long above, long below, WettedNet x, int a, int b) {
        doc.due(call + ", above", above, x.carried(a, b, 0));
        doc.due(call + ", below", below, x.carried(a, b, 1));
    }

    private void dueMean(String call, long above, long below, WettedNet x, int a) {
        doc.due(call + ", above", above, x.mean(a, 0));
        doc.due(call + ", below", below, x.mean(a, 1));
    }

    private void carried() {
        doc.says(TERMS, "CARRIED: a ROOM burns; each WAY carries by CHANCE, each by itself: the CHANCE that another ROOM comes to burn"
                + " (by WAYS that carry, one behind the other), and the mean FOLK that is lost.");
        WettedNet two = Nets.of("rooms 3;way 0 1;way 1 2;chance 1");
        dueParts("one WAY", 1, 10, two, 0, 1);
        dueParts("one behind the other", 1, 100, two, 0, 2);
        dueParts("not against them", 0, 1, two, 2, 0);
        dueMean("1 + 1/10 + 1/100", 111, 100, two, 0);
        dueMean("one room", 1, 1, two, 2);
        Nets.tell(two, "chance 10");
        dueParts("surely", 1, 1, two, 0, 2);
        dueMean("surely", 3, 1, two, 0);
        Nets.tell(two, "chance 9;way 0 2");
        // 1 - (1 - 9/10) (1 - 81/100)
        dueParts("two WAYS, each by itself", 981, 1000, two, 0, 2);
        WettedNet door = Nets.of("rooms 2;door 0 1;chance 5");
        dueParts("a DOOR's two WAYS are two", 1, 2, door, 0, 1);
        WettedNet none = Nets.of(Nets.LONE9, "chance 1");
        dueParts("no WAYS", 0, 1, none, 0, 8);
        dueMean("no WAYS", 1, 1, none, 8);
        Nets.tell(none, "folk 8 0");
        dueMean("no FOLK", 0, 1, none, 8);
    }

    private void tenWays() {
        doc.says(TERMS, "(10 WAYS at most.)");
        WettedNet fan = Nets.of(Nets.FAN7, "chance 1");
        doc.due("ten WAYS", 10, fan.count(1));
        // 1 - (1 - 1/100)^5
        dueParts("ten WAYS", 490099501L, 10000000000L, fan, 0, 6);
        Nets.tell(fan, "way 6 0");
        doc.due("eleven WAYS", NOT, fan.carried(0, 6, 0));
        doc.due("eleven WAYS", NOT, fan.mean(0, 0));
        Nets.tell(fan, "shut 6 0");
        dueParts("ten again", 1, 10, fan, 0, 1);
        WettedNet full = Nets.full(9);
        doc.due("as many WAYS as can be", NOT, full.carried(0, 8, 0));
        doc.due("as many WAYS as can be", NOT, full.mean(0, 0));
        doc.due("CHANCE 10 too", 10, full.count(4));
    }

    private void token() {
        doc.says(TERMS, "A TOKEN stands in a ROOM; two go on with it in turn, by a WAY to a ROOM where it never was; who cannot has lost.");
        doc.due("one room: who goes first cannot", 0, new WettedNet().token(0, 0, 0));
        WettedNet way = Nets.of("rooms 2;way 0 1");
        doc.due("one go", 1, way.token(0, 0, 0));
        doc.due("not against the WAY", 0, way.token(1, 0, 0));
        doc.due("where it was already", 0, way.token(0, 2, 0));
        WettedNet door = Nets.of("rooms 2;door 0 1");
        doc.due("never back", 1, door.token(0, 0, 1));
        WettedNet path = Nets.of(Nets.PATH9);
        doc.due("eight goes: who goes first cannot go the ninth", 0, path.token(0, 0, 0));
        doc.due("seven goes", 1, path.token(0, 256, 0));
        doc.due("everywhere been", 0, path.token(4, 511, 0));
        WettedNet full = Nets.full(9);
        doc.due("all rooms in turn", 0, full.token(0, 0, 0));
        doc.due("all but one", 1, full.token(0, 256, 0));
    }

    private void length() {
        doc.says(TERMS, "LENGTH: how many goes till then, if who wins goes to the end as soon, who loses as late as may be.");
        doc.due("no go", 0, new WettedNet().token(0, 0, 1));
        doc.due("the most goes", 8, Nets.of(Nets.PATH9).token(0, 0, 1));
        doc.due("the most goes, all rooms", 8, Nets.full(9).token(0, 0, 1));
        WettedNet soon = Nets.of("rooms 5;way 0 1;way 1 3;way 3 4;way 0 2");
        doc.due("who wins: one go, not three", 1, soon.token(0, 0, 1));
        WettedNet late = Nets.of("rooms 6;way 0 1;way 1 5;way 0 2;way 2 3;way 3 4;way 4 5");
        doc.due("who loses: four goes, not two", 4, late.token(0, 0, 1));
        doc.due("who loses: the longer one is barred", 2, late.token(0, 4, 1));
    }

    private void step() {
        doc.says(TERMS, "STEP: the ROOM by which it is so, the least.");
        doc.due("there is none", NONE, new WettedNet().token(0, 0, 2));
        WettedNet star = Nets.of(Nets.STAR9);
        doc.due("the least of eight", 1, star.token(0, 0, 2));
        doc.due("the last of eight", 8, star.token(0, 254, 2));
        doc.due("none is left", NONE, star.token(0, 510, 2));
        doc.due("room 0 is a step too", 0, star.token(8, 0, 2));
        WettedNet soon = Nets.of("rooms 5;way 0 1;way 1 3;way 3 4;way 0 2");
        doc.due("not the least, but the soonest", 2, soon.token(0, 0, 2));
        WettedNet late = Nets.of("rooms 6;way 0 1;way 1 5;way 0 2;way 2 3;way 3 4;way 4 5");
        doc.due("not the least, but the latest", 2, late.token(0, 0, 2));
        WettedNet win = Nets.of("rooms 4;way 0 1;way 1 2;way 0 3");
        doc.due("not the least, but the one that wins", 3, win.token(0, 0, 2));
    }

    private void alone() {
        doc.says(TERMS, "ALONE: the most goes that one may go so.");
        doc.due("none", 0, new WettedNet().token(0, 0, 3));
        doc.due("eight, the most", 8, Nets.of(Nets.PATH9).token(0, 0, 3));
        doc.due("eight among all rooms", 8, Nets.full(9).token(8, 0, 3));
        WettedNet path = Nets.of(Nets.PATH5);
        doc.due("the longer side", 3, path.token(1, 0, 3));
        doc.due("the longer side is barred", 1, path.token(1, 4, 3));
        doc.due("both are barred", 0, path.token(1, 5, 3));
        doc.due("never back", 2, Nets.of(Nets.STAR9).token(1, 0, 3));
    }

    private void pairs() {
        doc.says(TERMS, "PAIRS of an EVEN net: the most DOORS no two of which have a ROOM in common.");
        doc.due("one room", 0, new WettedNet().pairs());
        doc.due("no DOORS", 0, Nets.of(Nets.LONE9).pairs());
        doc.due("four of nine rooms", 4, Nets.full(9).pairs());
        doc.due("four of eight rooms", 4, Nets.full(8).pairs());
        doc.due("a star has one", 1, Nets.of(Nets.STAR9).pairs());
        doc.due("two rooms", 1, Nets.of("rooms 2;door 0 1").pairs());
        doc.due("the last two rooms", 1, Nets.of("rooms 9;door 7 8").pairs());
        // Taking the door between 1 and 2 first would leave one only.
        doc.due("not the first door that comes", 2, Nets.of("rooms 4;door 1 2;door 0 1;door 2 3").pairs());
        doc.due("not EVEN", NOT, Nets.of("rooms 2;way 0 1").pairs());
    }

    private void parts() {
        doc.says(TERMS, "Parts are told in lowest terms: above (part 0), below (1).");
        WettedNet two = Nets.of("rooms 2;way 0 1");
        long[][] terms = {{1, 10}, {1, 5}, {3, 10}, {2, 5}, {1, 2}, {3, 5}, {7, 10}, {4, 5}, {9, 10}, {1, 1}};
        for (int chance = 1; chance <= 10; chance++) {
            Nets.tell(two, "chance " + chance);
            dueParts("CHANCE " + chance, terms[chance - 1][0], terms[chance - 1][1], two, 0, 1);
        }
        dueParts("nothing", 0, 1, two, 1, 0);
        dueParts("all", 1, 1, two, 1, 1);
        Nets.tell(two, "folk 0 0;folk 1 0;chance 3");
        dueMean("nothing", 0, 1, two, 0);
        Nets.tell(two, "folk 1 10");
        dueMean("a whole number", 3, 1, two, 0);
        // 99 (1 - (1 - 1/100)^5), which an int does not hold.
        WettedNet fan = Nets.of(Nets.FAN7, Nets.forEach("folk", 6, 0) + ";folk 6 99;chance 1");
        dueMean("more than an int holds", 48519850599L, 10000000000L, fan, 0);
    }
}
