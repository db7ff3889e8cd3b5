import com.sun.management.ThreadMXBean;
import java.lang.management.ManagementFactory;

/** What a run makes: an object some 22,000 elements at the most, its calls nothing. */
public final class FootprintTest {
    private static final ThreadMXBean MEMORY = (ThreadMXBean) ManagementFactory.getThreadMXBean();
    private static final String[] NETS = {
        "rooms 9;door 0 1;door 1 2;door 2 3;door 3 4;door 4 5;door 5 6;door 6 7;door 7 8;door 8 0;door 0 4;hands 2",
        "rooms 9;way 0 1;way 1 2;way 2 3;way 3 4;way 4 5;way 5 6;way 6 7;way 7 8;way 8 0;way 3 1;chance 7"};

    private FootprintTest() {
    }

    public static void main(String[] args) {
        Check check = new Check();
        WettedNet first = new WettedNet();
        askAll(first, NETS[0]);
        check.holds("a new object is small", made(() -> new WettedNet()) < 16000);
        WettedNet second = new WettedNet();
        long searching = made(() -> second.least(1, 0));
        check.holds("its first search makes one row: " + searching, searching < 90000);
        for (String text : NETS) {
            WettedNet x = new WettedNet();
            askAll(x, text);
            Check.put(x, text);
            x.net();
            check.holds("all questions make nothing", made(() -> askOnce(x)) < 1000);
            check.holds("nor do they once more", made(() -> askOnce(x)) < 1000);
        }
        check.end();
    }

    private static long made(Runnable what) {
        long id = Thread.currentThread().getId();
        MEMORY.getThreadAllocatedBytes(id);
        long before = MEMORY.getThreadAllocatedBytes(id);
        what.run();
        return MEMORY.getThreadAllocatedBytes(id) - before;
    }

    private static void askAll(WettedNet x, String text) {
        Check.put(x, text);
        x.net();
        askOnce(x);
    }

    private static void askOnce(WettedNet x) {
        x.write(0x2020312073646e61L, 8);
        x.fault();
        x.erase();
        for (int what = 0; what < 7; what++) {
            x.count(what);
            x.room(1, what);
            x.least(1, what);
            x.play(what);
            x.sparks(what);
            x.seeds(2, what);
            x.forced(3, 4, what);
            x.forcers(what);
            x.carried(0, 8, what);
            x.mean(0, what);
            x.token(0, 0, what);
        }
        x.hold(1, 5);
        x.begin(1);
        x.wets(12);
        x.when(0x321, 3, 8);
        x.caught(3, -1);
        x.ahead(3, 5);
        x.pairs();
    }
}
