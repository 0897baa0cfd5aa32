/** Counts and prints the answers that are not as due, and feeds texts. */
final class Check {
    static final long LOW = -9000000000000000L;
    static final long BEYOND = LOW - 1;
    static final long MISSING = LOW - 2;
    static final long SIZE = LOW - 3;
    static final long KIND = LOW - 4;
    static final long FULL = LOW - 5;
    static final long NONE = LOW - 6;
    static final long HALTED = LOW - 7;

    private int wrong = 0;
    private int asked = 0;

    void due(String what, long got, long want) {
        asked++;
        if (got != want) {
            wrong++;
            System.out.println(what + " answered " + got + ", due is " + want);
        }
    }

    void same(String what, String got, String want) {
        asked++;
        if (!got.equals(want)) {
            wrong++;
            System.out.println(what + " has\n" + got + "\ndue is\n" + want);
        }
    }

    boolean isWrong() {
        return wrong != 0;
    }

    void end() {
        System.out.println(asked + " answers, " + wrong + " not as due");
        if (wrong != 0) {
            System.exit(1);
        }
    }

    /** Up to 8 bytes of a text as feed() wants them. */
    static long packed(String text, int from, int n) {
        long bytes = 0;
        for (int i = n - 1; i >= 0; i--) {
            bytes = bytes << 8 | text.charAt(from + i) & 255;
        }
        return bytes;
    }

    static void feed(ProvedMachine x, String text) {
        for (int at = 0; at < text.length(); at += 8) {
            int n = Math.min(8, text.length() - at);
            x.feed(n, packed(text, at, n));
        }
    }

    static long read(ProvedMachine x, String text) {
        feed(x, text);
        return x.text();
    }

    /** A new object with the CODE of a text, which must have no FAULT. */
    ProvedMachine with(String text) {
        ProvedMachine x = new ProvedMachine();
        if (read(x, text) < 0) {
            due("fault of " + text + " at " + x.fault(1), x.fault(0), 0);
        }
        return x;
    }

    ProvedMachine begun(String text) {
        ProvedMachine x = with(text);
        due("start of " + text, x.start(), x.all(1));
        return x;
    }

    void faulty(String text, int kind, int place) {
        ProvedMachine x = new ProvedMachine();
        due("text " + text, read(x, text), -1);
        due("kind of " + text, x.fault(0), kind);
        due("place of " + text, x.fault(1), place);
    }

    void right(String text, int places) {
        ProvedMachine x = new ProvedMachine();
        due("text " + text, read(x, text), places);
        due("kind of " + text, x.fault(0), 0);
        due("place of " + text, x.fault(1), -1);
    }

    /** The fault is told by the place of the @, which is no part of the text. */
    void faultAt(int kind, String text) {
        int at = text.indexOf('@');
        faulty(text.substring(0, at) + text.substring(at + 1), kind, at);
    }

    /** A sheet of 32 bits with these numbers. */
    void sheetOf(ProvedMachine x, int s, int... numbers) {
        due("sheet", x.sheet(s, 32, numbers.length), numbers.length);
        for (int i = 0; i < numbers.length; i++) {
            due("put", x.put(s, i, numbers[i]), 0);
        }
    }
}
