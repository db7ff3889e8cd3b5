import java.nio.charset.StandardCharsets;

/** Counts answers that are not as due, and puts texts into a net. */
final class Check {
    private int asked = 0;
    private int wrong = 0;

    void due(String call, long want, long got) {
        asked++;
        if (want != got) {
            wrong++;
            System.out.println(call + " answered " + got + ", due is " + want);
        }
    }

    void holds(String what, boolean holds) {
        due(what, 1, holds ? 1 : 0);
    }

    void end() {
        System.out.println(asked + " answers, " + wrong + " not as due");
        if (wrong != 0) {
            System.exit(1);
        }
    }

    static long pack(byte[] bytes, int from, int n) {
        long packed = 0;
        for (int i = 0; i < n; i++) {
            packed |= (bytes[from + i] & 255L) << (8 * i);
        }
        return packed;
    }

    /** Writes a text eight bytes a call; the last answer, or 0 for an empty text. */
    static int put(WettedNet net, String text) {
        byte[] bytes = text.getBytes(StandardCharsets.ISO_8859_1);
        int answer = 0;
        for (int i = 0; i < bytes.length; i += 8) {
            int n = Math.min(8, bytes.length - i);
            answer = net.write(pack(bytes, i, n), n);
        }
        return answer;
    }

    static int faultOf(WettedNet net, String text) {
        net.erase();
        put(net, text);
        return net.fault();
    }

    /** A new object to which the texts have been told, one net() each. */
    static WettedNet told(String... texts) {
        WettedNet net = new WettedNet();
        for (String text : texts) {
            put(net, text);
            int lines = net.net();
            if (lines < 1) {
                throw new IllegalStateException("the test's own text is wrong: " + text + ": " + lines);
            }
        }
        return net;
    }
}
