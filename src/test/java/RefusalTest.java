import java.util.function.Supplier;
import java.util.function.ToLongFunction;

/**
 * "Each act tells its findings in the order in which they are asked; one that answers a finding changes nothing but what
 * found() tells": every finding of every act, in four states, with all that can be seen ahead of it and behind it.
 */
public final class RefusalTest {
    private static final Check CHECK = new Check();
    private static final int BEYOND = 1;
    private static final int MISSING = 2;
    private static final int SIZE = 3;
    private static final int KIND = 4;
    private static final int FULL = 5;
    private static final int NONE = 6;
    private static final int HALTED = 7;
    private static final int LEAST = Integer.MIN_VALUE;
    private static final int MOST = Integer.MAX_VALUE;
    private static final String TEXT = "fun f(int x,row r)int{r[0]=x;print x;return x/0;}fun m()int{row r=new 2;return f(3,r);}";

    private Supplier<ProvedMachine> state;
    private String stateName = "";

    public static void main(String[] args) {
        findings();
        RefusalTest test = new RefusalTest();
        test.in("a new one", ProvedMachine::new);
        test.ofNoCode();
        test.ofNoMachine();
        test.ofAny();
        test.in("one with code", () -> withSheets(CHECK.with(TEXT)));
        test.ofNoMachine();
        test.ofAny();
        test.ofSheets();
        test.provesUnbegun();
        test.in("one that runs", RefusalTest::running);
        test.ofAny();
        test.ofSheets();
        test.ofABegun();
        test.ofARunning();
        test.in("one that is halted", RefusalTest::halted);
        test.ofAny();
        test.ofSheets();
        test.ofABegun();
        test.ofAHalted();
        test.ofAFullTape();
        foundOfAll();
        CHECK.end();
    }

    private static void due(String what, long got, long want) {
        CHECK.due(what, got, want);
    }

    // ---- states

    /** Sheet 0: 32 bits and 8 numbers (the next PROOF of one that runs ahead), 1: 16 and 3, 2: 8 and 40, 3: MISSING. */
    private static ProvedMachine withSheets(ProvedMachine x) {
        CHECK.sheetOf(x, 0, 7, 1, 2, 0, 8, 2, 1, 1);
        x.sheet(1, 16, 3);
        x.sheet(2, 8, 40);
        x.put(2, 39, 7);
        x.feed(3, 0x6e7566);
        return x;
    }

    private static ProvedMachine running() {
        ProvedMachine x = CHECK.begun(TEXT);
        x.step(13);
        return withSheets(x);
    }

    private static ProvedMachine halted() {
        ProvedMachine x = CHECK.begun(TEXT);
        x.step(400);
        return withSheets(x);
    }

    private void in(String name, Supplier<ProvedMachine> made) {
        stateName = name;
        state = made;
    }

    /** Counts of findings, then all that can be seen, then what comes of it: the tape's text, steps, sheets. */
    private static String sight(ProvedMachine x) {
        StringBuilder seen = new StringBuilder();
        for (int k = 1; k <= HALTED; k++) {
            seen.append(" found").append(k).append('=').append(x.found(k));
        }
        seen.append(" fault=").append(x.fault(0)).append(',').append(x.fault(1));
        seen.append(" bytes=").append(x.all(0)).append(Sight.of(x));
        for (int s = 0; s < 4; s++) {
            for (int n : new int[] {0, 3, 4, 8, 9, 40}) {
                seen.append(" copies=").append(x.copy(s, 0, s, 0, n));
            }
            seen.append(" proves=").append(x.proves(s));
        }
        seen.append(" back=").append(x.back(2)).append(" step=").append(x.step(2));
        seen.append(" then=").append(x.now(0)).append(',').append(x.now(1)).append(',').append(x.now(5));
        Check.feed(x, " a()int{}");
        seen.append(" text=").append(x.text()).append(',').append(x.fault(0)).append(',').append(x.fault(1));
        return seen.toString();
    }

    private void refuses(int k, String name, ToLongFunction<ProvedMachine> act) {
        String what = name + " of " + stateName;
        ProvedMachine x = state.get();
        long ahead = x.found(k);
        due(what, act.applyAsLong(x), Check.LOW - k);
        due("found by " + what, x.found(k), ahead + 1);
        String want = sight(state.get()).replaceFirst(" found" + k + "=" + ahead, " found" + k + "=" + (ahead + 1));
        CHECK.same("behind " + what, sight(x), want);
    }

    // ---- acts

    /** "LOW is -9000000000000000; LOW - 1 BEYOND, LOW - 2 MISSING, .." */
    private static void findings() {
        ProvedMachine x = new ProvedMachine();
        due("BEYOND", x.feed(0, 0), -9000000000000001L);
        due("MISSING", x.put(0, 0, 0), -9000000000000002L);
        due("SIZE", x.sheet(0, 8, -1), -9000000000000003L);
        x.sheet(0, 8, 0);
        due("KIND", x.proves(0), -9000000000000004L);
        for (int i = 0; i < 30; i++) {
            x.feed(8, 0);
        }
        due("FULL", x.feed(1, 0), -9000000000000005L);
        due("NONE", x.start(), -9000000000000006L);
        ProvedMachine y = CHECK.begun("fun a()int{}");
        y.step(2);
        due("HALTED", y.step(1), -9000000000000007L);
        for (int k = 1; k <= 6; k++) {
            due("found " + k, x.found(k), 1);
            due("found " + k, y.found(k), 0);
        }
        due("found 7", x.found(7), 0);
        due("found 7", y.found(7), 1);
    }

    /** Acts that are refused in any state. */
    private void ofAny() {
        for (int n : new int[] {0, 9, -1, LEAST, MOST}) {
            refuses(BEYOND, "feed " + n, x -> x.feed(n, -1));
        }
        for (int odd : new int[] {-1, 2, LEAST, MOST}) {
            refuses(BEYOND, "fault " + odd, x -> x.fault(odd));
        }
        for (int odd : new int[] {-1, 200, LEAST, MOST}) {
            refuses(BEYOND, "code " + odd, x -> x.code(odd, false));
            refuses(BEYOND, "argument " + odd, x -> x.code(odd, true));
            refuses(BEYOND, "as " + odd, x -> x.as(odd, 0));
            refuses(BEYOND, "as kind " + odd, x -> x.as(0, odd));
            refuses(BEYOND, "shape " + odd, x -> x.shape(odd));
            refuses(BEYOND, "fun " + odd, x -> x.fun(odd, 0));
            refuses(BEYOND, "fun's " + odd, x -> x.fun(0, odd));
            refuses(BEYOND, "all " + odd, x -> x.all(odd));
        }
        // These ask how many STEPS ahead of whether there is a MACHINE that runs.
        for (int n : new int[] {0, 401, -1, LEAST, MOST}) {
            refuses(BEYOND, "step " + n, x -> x.step(n));
        }
        for (int n : new int[] {0, 31, -1, LEAST, MOST}) {
            refuses(BEYOND, "back " + n, x -> x.back(n));
        }
        for (int k : new int[] {0, 8, -1, LEAST, MOST}) {
            refuses(BEYOND, "found " + k, x -> x.found(k));
        }
        ofNoSheet();
    }

    private void ofNoSheet() {
        for (int s : new int[] {-1, 4, LEAST, MOST}) {
            refuses(BEYOND, "proves " + s, x -> x.proves(s));
            refuses(BEYOND, "sheet " + s, x -> x.sheet(s, 8, 1));
            refuses(BEYOND, "no such sheet ahead of SIZE", x -> x.sheet(s, 8, -1));
            refuses(BEYOND, "put " + s, x -> x.put(s, 0, 1));
            refuses(BEYOND, "put " + s, x -> x.put(s, -1, 1));
            for (int t = 0; t < 4; t++) {
                int other = t;
                refuses(BEYOND, "copy from " + s, x -> x.copy(s, 0, other, 0, 0));
                refuses(BEYOND, "copy to " + s, x -> x.copy(other, 0, s, 0, 0));
            }
            refuses(BEYOND, "copy of none such", x -> x.copy(s, -1, s, -1, -1));
        }
        for (int bits : new int[] {1, 4, 7, 9, 12, 15, 17, 24, 31, 33, 64, -8, -32, LEAST, MOST}) {
            refuses(BEYOND, "bits " + bits, x -> x.sheet(0, bits, 1));
            refuses(BEYOND, "bits ahead of SIZE " + bits, x -> x.sheet(0, bits, -1));
            refuses(BEYOND, "bits and 41 " + bits, x -> x.sheet(0, bits, 41));
        }
        for (int bits : new int[] {0, 8, 16, 32}) {
            for (int s = 0; s < 4; s++) {
                int sheet = s;
                refuses(SIZE, "-1 of " + bits, x -> x.sheet(sheet, bits, -1));
                refuses(SIZE, "least of " + bits, x -> x.sheet(sheet, bits, LEAST));
                refuses(BEYOND, "41 of " + bits, x -> x.sheet(sheet, bits, 41));
                refuses(BEYOND, "most of " + bits, x -> x.sheet(sheet, bits, MOST));
            }
        }
        refuses(MISSING, "put of sheet 3", x -> x.put(3, 0, 1));
        refuses(MISSING, "MISSING ahead of no such number", x -> x.put(3, -1, 1));
        refuses(MISSING, "proves 3", x -> x.proves(3));
        for (int s = 0; s < 4; s++) {
            int other = s;
            refuses(MISSING, "copy from 3", x -> x.copy(3, 0, other, 0, 0));
            refuses(MISSING, "copy to 3", x -> x.copy(other, 0, 3, 0, 0));
            refuses(MISSING, "MISSING ahead of below 0", x -> x.copy(3, -1, other, -1, -1));
        }
    }

    private void ofNoCode() {
        refuses(NONE, "start", ProvedMachine::start);
        refuses(BEYOND, "code", x -> x.code(0, false));
        refuses(BEYOND, "shape", x -> x.shape(0));
        refuses(BEYOND, "as", x -> x.as(0, 0));
        refuses(BEYOND, "fun", x -> x.fun(0, 0));
        for (int s = 0; s < 3; s++) {
            int sheet = s;
            refuses(MISSING, "put", x -> x.put(sheet, 0, 0));
            refuses(MISSING, "proves", x -> x.proves(sheet));
        }
    }

    /** NONE is asked first by all that ask of THE MACHINE but step and back. */
    private void ofNoMachine() {
        refuses(NONE, "step 1", x -> x.step(1));
        refuses(NONE, "step 400", x -> x.step(400));
        refuses(NONE, "back 1", x -> x.back(1));
        refuses(NONE, "back 30", x -> x.back(30));
        refuses(NONE, "result", ProvedMachine::result);
        refuses(NONE, "clear", ProvedMachine::clear);
        for (int odd : new int[] {-1, 0, 1, 9, LEAST, MOST}) {
            refuses(NONE, "now " + odd, x -> x.now(odd));
            refuses(NONE, "stack " + odd, x -> x.stack(odd, false));
            refuses(NONE, "stack type " + odd, x -> x.stack(odd, true));
            refuses(NONE, "variable " + odd, x -> x.variable(odd, 0));
            refuses(NONE, "variable's " + odd, x -> x.variable(0, odd));
            refuses(NONE, "object " + odd, x -> x.object(odd, 0));
            refuses(NONE, "object's " + odd, x -> x.object(1, odd));
            refuses(NONE, "printed " + odd, x -> x.printed(odd));
            refuses(NONE, "proof " + odd, x -> x.proof(odd, 0));
            refuses(NONE, "proof's " + odd, x -> x.proof(0, odd));
        }
    }

    /** "KIND: they are not of as many bits.", "BEYOND: one has not so many, or from, to or n is below 0." */
    private void ofSheets() {
        refuses(KIND, "copy of 32 to 16", x -> x.copy(0, 0, 1, 0, 1));
        refuses(KIND, "copy of 16 to 8", x -> x.copy(1, 0, 2, 0, 1));
        refuses(KIND, "copy of 8 to 32", x -> x.copy(2, 0, 0, 0, 0));
        refuses(KIND, "KIND ahead of below 0", x -> x.copy(0, -1, 1, -1, -1));
        refuses(KIND, "KIND ahead of not so many", x -> x.copy(0, 0, 1, 0, 41));
        refuses(KIND, "proves of 16 bits", x -> x.proves(1));
        refuses(KIND, "proves of 8 bits", x -> x.proves(2));
        for (int below : new int[] {-1, LEAST}) {
            refuses(BEYOND, "from below 0", x -> x.copy(0, below, 0, 0, 0));
            refuses(BEYOND, "to below 0", x -> x.copy(0, 0, 0, below, 0));
            refuses(BEYOND, "n below 0", x -> x.copy(0, 0, 0, 0, below));
        }
        refuses(BEYOND, "n above", x -> x.copy(0, 0, 0, 0, 9));
        refuses(BEYOND, "from above", x -> x.copy(0, 1, 0, 0, 8));
        refuses(BEYOND, "to above", x -> x.copy(0, 0, 0, 1, 8));
        refuses(BEYOND, "from behind the end", x -> x.copy(0, 9, 0, 0, 0));
        refuses(BEYOND, "to behind the end", x -> x.copy(0, 0, 0, 9, 0));
        for (int odd : new int[] {MOST, MOST - 7, LEAST, LEAST + 8}) {
            refuses(BEYOND, "from " + odd, x -> x.copy(0, odd, 0, 0, 8));
            refuses(BEYOND, "to " + odd, x -> x.copy(0, 0, 0, odd, 8));
            refuses(BEYOND, "n " + odd, x -> x.copy(0, 8, 0, 8, odd));
            refuses(BEYOND, "all " + odd, x -> x.copy(0, odd, 0, odd, odd));
        }
        for (int i : new int[] {-1, 8, 39, 40, LEAST, MOST}) {
            refuses(BEYOND, "put at " + i, x -> x.put(0, i, -1));
        }
        refuses(BEYOND, "put at 3 of 3", x -> x.put(1, 3, -1));
        refuses(BEYOND, "put at 40 of 40", x -> x.put(2, 40, -1));
    }

    private void provesUnbegun() {
        refuses(NONE, "proves 0", x -> x.proves(0));
        refuses(KIND, "KIND ahead of NONE", x -> x.proves(1));
        refuses(MISSING, "MISSING ahead of NONE", x -> x.proves(3));
    }

    private void ofABegun() {
        for (int odd : new int[] {-1, 9, LEAST, MOST}) {
            refuses(BEYOND, "now " + odd, x -> x.now(odd));
            refuses(BEYOND, "object's " + odd, x -> x.object(1, odd));
            refuses(BEYOND, "free object's " + odd, x -> x.object(2, odd));
            refuses(BEYOND, "proof's " + odd, x -> x.proof(0, odd));
            refuses(BEYOND, "variable's " + odd, x -> x.variable(0, odd));
            refuses(BEYOND, "printed " + odd, x -> x.printed(odd));
        }
        for (int odd : new int[] {-1, 30, LEAST, MOST}) {
            refuses(BEYOND, "stack " + odd, x -> x.stack(odd, false));
            refuses(BEYOND, "stack type " + odd, x -> x.stack(odd, true));
            refuses(BEYOND, "variable " + odd, x -> x.variable(odd, 0));
            refuses(BEYOND, "proof " + odd, x -> x.proof(odd, 0));
        }
        for (int odd : new int[] {-1, 0, 17, LEAST, MOST}) {
            refuses(BEYOND, "object " + odd, x -> x.object(odd, 0));
        }
        refuses(BEYOND, "free object's 1", x -> x.object(16, 1));
        refuses(BEYOND, "a row's list", x -> x.object(1, 2));
        refuses(BEYOND, "a row's third", x -> x.object(1, 12));
        refuses(BEYOND, "variable 1 of 1", x -> x.variable(0, 1));
        refuses(BEYOND, "variable 2 of 2", x -> x.variable(1, 2));
        refuses(BEYOND, "frame 2 of 2", x -> x.variable(2, 0));
        refuses(BEYOND, "printed 1 of 1", x -> x.printed(1));
        refuses(NONE, "result", ProvedMachine::result);
        refuses(KIND, "as a place", x -> x.as(0, 1));
        refuses(KIND, "as one that takes and puts", x -> x.as(0, 2));
        refuses(KIND, "as a call", x -> x.as(0, 3));
    }

    private void ofARunning() {
        refuses(BEYOND, "stack 1 of 1", x -> x.stack(1, false));
        refuses(BEYOND, "proof 13 of 13", x -> x.proof(13, 0));
        refuses(MISSING, "proves 3", x -> x.proves(3));
    }

    private void ofAHalted() {
        refuses(HALTED, "step 1", x -> x.step(1));
        refuses(HALTED, "step 400", x -> x.step(400));
        refuses(HALTED, "proves 0", x -> x.proves(0));
        refuses(KIND, "KIND ahead of HALTED", x -> x.proves(1));
        refuses(MISSING, "MISSING ahead of HALTED", x -> x.proves(3));
        refuses(BEYOND, "BEYOND ahead of HALTED", x -> x.proves(4));
        refuses(BEYOND, "stack 2 of 2", x -> x.stack(2, false));
        refuses(BEYOND, "proof 15 of 15", x -> x.proof(15, 0));
        refuses(NONE, "result", ProvedMachine::result);
    }

    private void ofAFullTape() {
        for (int left = 0; left < 8; left++) {
            int rest = left;
            in("one with room for " + left, () -> {
                ProvedMachine x = new ProvedMachine();
                Check.feed(x, "fun a()int{}" + " ".repeat(240 - 12 - rest));
                return x;
            });
            for (int n = 1; n <= 8; n++) {
                int bytes = n;
                if (n > left) {
                    refuses(FULL, "feed " + n, x -> x.feed(bytes, -1));
                } else {
                    due("feed " + n, state.get().feed(n, -1), 240 - left + n);
                }
            }
            refuses(BEYOND, "BEYOND ahead of FULL", x -> x.feed(9, -1));
            refuses(BEYOND, "BEYOND ahead of FULL", x -> x.feed(0, -1));
        }
        in("one with room for none", () -> {
            ProvedMachine x = new ProvedMachine();
            Check.feed(x, "fun a()int{}" + " ".repeat(228));
            return x;
        });
        ProvedMachine y = state.get();
        due("refused", y.feed(1, -1), Check.FULL);
        due("the text is as it was fed", y.text(), 2);
    }

    /** "How many acts have answered a finding LOW - k (k 1 to 7). BEYOND: another k (counted, too)." */
    private static void foundOfAll() {
        ProvedMachine x = new ProvedMachine();
        for (int i = 1; i <= 20; i++) {
            due("another k", x.found(i % 2 == 0 ? 0 : 8), Check.BEYOND);
            due("counted, too", x.found(1), i);
            due("none", x.start(), Check.NONE);
            due("counted", x.found(6), i);
        }
        // Neither start() nor text() forgets them.
        due("text", Check.read(x, "fun a()int{}"), 2);
        x.start();
        due("found", x.found(1), 20);
        due("found", x.found(6), 20);
        // What answers -1, or a place, is no finding; nor is a negative number.
        x.fault(1);
        x.text();
        x.sheet(0, 32, 0);
        due("proved", x.proves(0), -1);
        x.sheet(0, 32, 4);
        due("wrong", x.proves(0), 2);
        for (int k = 1; k < 8; k++) {
            due("found " + k, x.found(k), k == 1 || k == 6 ? 20 : 0);
        }
        // Each object has counts of its own.
        due("another one", new ProvedMachine().found(1), 0);
    }
}
