/** Counts and prints the answers that are not as due, and feeds texts. */
final class Check {
    static final long LOW = -9000000000000000L;
    static final long BEYOND = LOW - 1;
    static final long MISSING = LOW - 2;
    static final long SIZE = LOW - 3;
    static final long KIND = LOW - 4;
    static final long FULL = LOW - 5;
    static final long NONE = LOW - 6;
    static final long HALTED = LOW - 7;

    private int wrong = 0;
    private int asked = 0;

    void due(String what, long got, long want) {
        asked++;
        if (got != want) {
            wrong++;
            System.out.println(what + " answered " + got + ", due is " + want);
        }
    }

    boolean isWrong() {
        return wrong != 0;
    }

    void end() {
        System.out.println(asked + " answers, " + wrong + " not as due");
        if (wrong != 0) {
            System.exit(1);
        }
    }

    /** Up to 8 bytes of a text as feed() wants them. */
    static long packed(String text, int from, int n) {
        long bytes = 0;
        for (int i = n - 1; i >= 0; i--) {
            bytes = bytes << 8 | text.charAt(from + i) & 255;
        }
        return bytes;
    }

    static void feed(ProvedMachine x, String text) {
        for (int at = 0; at < text.length(); at += 8) {
            int n = Math.min(8, text.length() - at);
            x.feed(n, packed(text, at, n));
        }
    }

    static long read(ProvedMachine x, String text) {
        feed(x, text);
        return x.text();
    }

    /** A new object that has begun a text, which must have no FAULT. */
    ProvedMachine begun(String text) {
        ProvedMachine x = new ProvedMachine();
        long places = read(x, text);
        if (places < 0) {
            due("text of " + text + " at " + x.fault(1), x.fault(0), 0);
        }
        due("start of " + text, x.start(), places);
        return x;
    }
}
