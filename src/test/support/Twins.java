import java.util.function.Supplier;
import java.util.function.ToLongFunction;

/**
 * Refused calls. Two objects are made alike, and one gets the call: if it changed nothing, the two answer alike from then on, in
 * all that can be seen, in the PLAY's next turns and in what THE TEXT does when it is told.
 */
final class Twins {
    private Twins() {
    }

    static void refused(Sentences doc, String call, long want, Supplier<WettedNet> make, ToLongFunction<WettedNet> ask) {
        WettedNet x = make.get();
        doc.due(call, want, ask.applyAsLong(x));
        String after = whole(x);
        String without = whole(make.get());
        doc.holds(call + " changes nothing: " + without + " / " + after, after.equals(without));
    }

    /** Some 220 calls with five rooms. */
    private static String whole(WettedNet x) {
        StringBuilder all = new StringBuilder(seen(x));
        for (int set = 0; set < 32; set++) {
            all.append(x.wets(set)).append(' ');
        }
        all.append(seen(x)).append(x.net()).append(' ');
        return all.append(seen(x)).append(x.erase()).toString();
    }

    private static String seen(WettedNet x) {
        StringBuilder all = new StringBuilder();
        for (int i = 0; i <= 6; i++) {
            all.append(x.count(i)).append(' ');
        }
        for (int i = 0; i <= 4; i++) {
            all.append(x.play(i)).append(' ');
        }
        for (int r = 0; r < x.count(0); r++) {
            for (int what = 0; what <= 3; what++) {
                all.append(x.room(r, what)).append(' ');
            }
        }
        return all.append(x.fault()).append(" / ").toString();
    }

    // ---- what refused calls meet

    /** Five rooms, an uneven net of twelve ways, a PLAY behind its first TURN, a text without a fault that waits. */
    static WettedNet midst() {
        WettedNet x = Check.told(Nets.PATH5, "way 0 2;folk 1 5;thick 3 2;chance 3;door 1 4;way 4 2;folk 4 0");
        x.begin(1);
        x.wets(16);
        Check.put(x, "hands 3;folk 2 7;shut 0 1");
        return x;
    }

    /** The same with a text that has a fault. */
    static WettedNet faulty() {
        WettedNet x = midst();
        Check.put(x, ";rooms 9;door 9 1");
        return x;
    }

    /** The same with a text of so many bytes. */
    static WettedNet with(int bytes) {
        WettedNet x = midst();
        Check.put(x, " ".repeat(bytes - x.count(2)));
        return x;
    }

    /** The same behind the PLAY's last TURN. */
    static WettedNet ended() {
        WettedNet x = midst();
        x.begin(31);
        x.wets(0);
        return x;
    }

    /** Five rooms, ten ways, no PLAY, no text. */
    static WettedNet quiet() {
        return Check.told(Nets.PATH5, "way 0 2;way 2 4;chance 5");
    }
}
