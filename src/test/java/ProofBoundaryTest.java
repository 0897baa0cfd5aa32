/**
 * The boundary cases of proofs and sheets, sentence by sentence: THE PROOF in 'Terms' 4, 'Terms' 5, promises 19 to 23.
 * Each method quotes the sentence that it tests; where a boundary has two sides both are asked.
 */
public final class ProofBoundaryTest {
    private static final Check CHECK = new Check();
    private static final long BEYOND = Check.BEYOND;
    private static final long MISSING = Check.MISSING;
    private static final long SIZE = Check.SIZE;
    private static final long KIND = Check.KIND;
    private static final long NONE = Check.NONE;
    private static final long HALTED = Check.HALTED;
    private static final int LEAST = Integer.MIN_VALUE;
    private static final int MOST = Integer.MAX_VALUE;

    public static void main(String[] args) {
        fourNumbers();
        toldOfAllTypes();
        lowest32Bits();
        proofsOfOps();
        proofOutside();
        proofsBehindBack();
        emptySheet();
        tenProofs();
        eachNumberWrong();
        stepsThatHalt();
        stepsNotWhole();
        behindDone();
        provesAgain();
        provesOverClearing();
        fourSheets();
        fortyNumbers();
        allZeros();
        bitsOfSheets();
        missingAgain();
        putAtTheEnds();
        copyAtTheEnds();
        copyWithinOne();
        copyOfNone();
        sheetsStay();
        CHECK.end();
    }

    private static void due(String what, long got, long want) {
        CHECK.due(what, got, want);
    }

    private static ProvedMachine begun(String text) {
        return CHECK.begun(text);
    }

    private static void proofIs(ProvedMachine x, int i, long... want) {
        for (int k = 0; k < 4; k++) {
            due("proof " + i + "'s " + k, x.proof(i, k), want[k]);
        }
    }

    // ---- THE PROOF

    /** "the place at which it was, how many VALUES the STACK had ahead of it, how many behind it, ..(0 without one)" */
    private static void fourNumbers() {
        ProvedMachine x = begun("fun a()int{print 7*8;return 9;}");
        long[][] want = {{0, 0, 1, 7}, {1, 1, 2, 8}, {2, 2, 1, 56}, {3, 1, 0, 0}, {4, 0, 1, 9}, {5, 1, 0, 0}};
        for (int i = 0; i < want.length; i++) {
            x.step(1);
            proofIs(x, 0, want[i]);
        }
        for (int i = 0; i < want.length; i++) {
            proofIs(x, want.length - 1 - i, want[i]);
        }
    }

    /** "what the highest one TOLD then": of ints, bools, rows and lists. */
    private static void toldOfAllTypes() {
        ProvedMachine x = begun("fun r()row{}fun l()list{}fun a()int{row r=new 3;r=r;list l=4:none;l=l;bool b=true;b=not b;"
            + "r=r();l=l();}");
        x.step(2);
        proofIs(x, 0, 5, 1, 1, 1);
        x.step(1);
        proofIs(x, 0, 6, 1, 0, 0);
        x.step(1);
        proofIs(x, 0, 7, 0, 1, 1);
        x.step(3);
        proofIs(x, 0, 10, 1, 2, 0);
        x.step(1);
        proofIs(x, 0, 11, 2, 1, 2);
        x.step(2);
        proofIs(x, 0, 13, 0, 1, 2);
        x.step(2);
        proofIs(x, 0, 15, 0, 1, 1);
        x.step(3);
        proofIs(x, 0, 18, 1, 1, 0);
        x.step(3);
        proofIs(x, 0, 0, 0, 1, 0);
        x.step(1);
        proofIs(x, 0, 1, 1, 1, 0);
        x.step(3);
        proofIs(x, 0, 2, 0, 1, 0);
    }

    /** ".. TOLD then .., by its lowest 32 bits": ints as they are, the least and the most, too. */
    private static void lowest32Bits() {
        int[] values = {-1, -5, LEAST, MOST, LEAST + 1, 0, 1, 99999};
        String[] texts = {"-1", "-5", "65536*32768", "65536*32768-1", "65536*32768+1", "1-1", "0+1", "0+99999"};
        for (int i = 0; i < values.length; i++) {
            ProvedMachine x = begun("fun a()int{int x=" + texts[i] + ";return x;}");
            int store = 0;
            while (store < 9 && x.code(store, false) != 21) {
                store++;
            }
            x.step(store);
            proofIs(x, 0, store - 1, texts[i].indexOf('-') == 0 ? 1 : 2, 1, values[i]);
            x.step(1);
            // The next one puts x, the one behind it DONE.
            CHECK.sheetOf(x, 0, store + 1, 0, 1, values[i], store + 2, 1, 0, 0);
            due("proves " + texts[i], x.proves(0), -1);
            for (int bit = 0; bit < 32; bit++) {
                x.put(0, 3, values[i] ^ 1 << bit);
                due("bit " + bit + " of " + texts[i], x.proves(0), 3);
            }
        }
    }

    /** How many the STACK has ahead and behind, over CALLS and what ends FRAMES. */
    private static void proofsOfOps() {
        ProvedMachine x = begun("fun f(int a,int b)int{return a-b;}fun m()int{return 5+f(8,2);}");
        // f: 0 to 5, m: 6 on.
        long[][] want = {{6, 0, 1, 5}, {7, 1, 2, 8}, {8, 2, 3, 2}, {9, 3, 1, 5}, {0, 1, 2, 8}, {1, 2, 3, 2}, {2, 3, 2, 6},
            {3, 2, 2, 6}, {10, 2, 1, 11}, {11, 1, 0, 0}};
        x.step(400);
        due("result", x.result(), 11);
        for (int i = 0; i < want.length; i++) {
            proofIs(x, want.length - 1 - i, want[i]);
        }
        ProvedMachine y = begun("fun a()int{row r=new 1;r[0]=4;if r[0]<1{}else{}while true{}}");
        long[][] next = {{0, 0, 1, 1}, {1, 1, 1, 1}, {2, 1, 0, 0}, {3, 0, 1, 1}, {4, 1, 2, 0}, {5, 2, 3, 4}, {6, 3, 0, 0},
            {7, 0, 1, 1}, {8, 1, 2, 0}, {9, 2, 1, 4}, {10, 1, 2, 1}, {11, 2, 1, 0}, {12, 1, 0, 0}, {14, 0, 1, 1},
            {15, 1, 0, 0}, {16, 0, 0, 0}, {14, 0, 1, 1}};
        y.step(next.length);
        for (int i = 0; i < next.length; i++) {
            proofIs(y, next.length - 1 - i, next[i]);
        }
    }

    /** "Number k (0 to 3) .. of the i-th latest STEP (0 the latest) that can be gone back. NONE: .. BEYOND." */
    private static void proofOutside() {
        ProvedMachine x = CHECK.with("fun a()int{while true{}}");
        due("none is begun", x.proof(0, 0), NONE);
        due("none is begun", x.proof(-1, 4), NONE);
        x.start();
        due("no step", x.proof(0, 0), BEYOND);
        x.step(1);
        proofIs(x, 0, 0, 0, 1, 1);
        due("no second", x.proof(1, 0), BEYOND);
        for (int k : new int[] {-1, 4, LEAST, MOST}) {
            due("k " + k, x.proof(0, k), BEYOND);
        }
        for (int i : new int[] {-1, 29, 30, 31, 32, LEAST, MOST}) {
            due("i " + i, x.proof(i, 0), BEYOND);
        }
        x.step(29);
        proofIs(x, 29, 0, 0, 1, 1);
        due("no thirty-first", x.proof(30, 0), BEYOND);
        x.step(1);
        proofIs(x, 29, 1, 1, 0, 0);
        due("no thirty-first", x.proof(30, 0), BEYOND);
        x.step(400);
        due("the oldest", x.proof(29, 0), (431 - 30) % 3);
        due("no thirty-first", x.proof(30, 0), BEYOND);
    }

    private static void proofsBehindBack() {
        ProvedMachine x = begun("fun a()int{while true{}}");
        x.step(40);
        x.back(3);
        due("the latest is another", x.proof(0, 0), 36 % 3);
        due("the oldest", x.proof(26, 0), 10 % 3);
        due("no older one", x.proof(27, 0), BEYOND);
        x.step(1);
        due("the oldest", x.proof(27, 0), 10 % 3);
        due("no older one", x.proof(28, 0), BEYOND);
        // A STEP that HALTS has no PROOF; the one ahead of it stays the latest.
        ProvedMachine y = begun("fun a()int{return 3/0;}");
        y.step(400);
        proofIs(y, 0, 1, 1, 2, 0);
        proofIs(y, 1, 0, 0, 1, 3);
        due("no third", y.proof(2, 0), BEYOND);
        // The latest of a MACHINE that is DONE.
        ProvedMachine z = begun("fun a()int{}");
        z.step(400);
        proofIs(z, 0, 1, 1, 0, 0);
    }

    // ---- proves

    /** A sheet of no numbers tells no STEP that is wrong. */
    private static void emptySheet() {
        ProvedMachine x = begun("fun a()int{return 1/0;}");
        x.sheet(0, 32, 0);
        due("empty", x.proves(0), -1);
        x.step(2);
        due("empty, ahead of a halt", x.proves(0), -1);
        x.step(1);
        due("empty, halted", x.proves(0), HALTED);
        due("-1 is no finding", x.found(1), 0);
    }

    /** "PROOFS, one behind the other, of the STEPS that THE MACHINE would do now: -1 (no finding)" */
    private static void tenProofs() {
        ProvedMachine x = begun("fun a()int{int i=0;while i<9{i=i+1;print i;}}");
        for (int turn = 0; turn < 6; turn++) {
            int[] told = proofsAhead(x, 10);
            for (int steps = 0; steps <= 10; steps++) {
                x.sheet(steps % 4, 32, 4 * steps);
                for (int i = 0; i < 4 * steps; i++) {
                    x.put(steps % 4, i, told[i]);
                }
                due("proves " + steps, x.proves(steps % 4), -1);
            }
            // The next turn's sheets are made by another object, as one has 512 calls.
            x = begun("fun a()int{int i=0;while i<9{i=i+1;print i;}}");
            x.step(7 * turn + 5);
        }
    }

    private static int[] proofsAhead(ProvedMachine x, int steps) {
        int[] told = new int[4 * steps];
        x.step(steps);
        for (int i = 0; i < 4 * steps; i++) {
            told[i] = (int) x.proof(steps - 1 - i / 4, i % 4);
        }
        x.back(steps);
        return told;
    }

    /** "else the place of the first number that is wrong" */
    private static void eachNumberWrong() {
        String text = "fun f(int x)int{return -x;}fun m()int{print f(3);return f(4);}";
        for (int by : new int[] {1, -1, 1 << 31, 256}) {
            ProvedMachine x = begun(text);
            int[] told = proofsAhead(x, 10);
            CHECK.sheetOf(x, 2, told);
            due("all are right", x.proves(2), -1);
            for (int i = 0; i < 40; i++) {
                x.put(2, i, told[i] + by);
                due("wrong at " + i, x.proves(2), i);
                // The first one alone is told.
                x.put(2, 39, told[39] + by);
                due("wrong at " + i + " and the last", x.proves(2), i);
                x.put(2, 39, told[39]);
                x.put(2, i, told[i]);
            }
            due("all are right again", x.proves(2), -1);
        }
    }

    /** "(of a STEP that would HALT its first; ..)" */
    private static void stepsThatHalt() {
        String[] e = {"1/0", "(new 0)[0]", "head none", "size new 10"};
        for (String halts : e) {
            ProvedMachine x = begun("fun a()int{return " + halts + ";}");
            int steps = (int) begun("fun a()int{return " + halts + ";}").step(400);
            int[] told = proofsAhead(x, steps);
            x.sheet(0, 32, 4 * steps + 4);
            for (int i = 0; i < 4 * steps; i++) {
                x.put(0, i, told[i]);
            }
            due("halts: " + halts, x.proves(0), 4 * steps);
            // Its place would be the right one, but it is not done.
            x.put(0, 4 * steps, steps);
            due("halts: " + halts, x.proves(0), 4 * steps);
            x.put(0, 0, 9);
            due("wrong ahead of it", x.proves(0), 0);
            due("runs", x.now(0), 0);
            due("no step", x.now(5), 0);
            x.step(steps);
            x.sheet(1, 32, 8);
            due("halts at once", x.proves(1), 0);
            due("runs", x.now(0), 0);
        }
        // By 7 and by 8.
        ProvedMachine y = begun("fun f()int{return f();}fun m()int{return f();}");
        y.step(7);
        y.sheet(0, 32, 4);
        due("a ninth frame", y.proves(0), 0);
        ProvedMachine z = begun("fun a()int{while true{print 1;}}");
        z.step(20 * 5 + 2);
        CHECK.sheetOf(z, 0, 2, 0, 1, 1, 3, 1, 0, 0);
        due("the twenty-first", z.proves(0), 4);
    }

    /** "(..; of a STEP that is not whole the sheet's length)" */
    private static void stepsNotWhole() {
        ProvedMachine x = begun("fun a()int{while true{}}");
        int[] told = proofsAhead(x, 10);
        for (int n = 0; n <= 40; n++) {
            if (n % 10 == 0) {
                x = begun("fun a()int{while true{}}");
            }
            CHECK.sheetOf(x, 0, java.util.Arrays.copyOf(told, n));
            due("of " + n, x.proves(0), n % 4 == 0 ? -1 : n);
        }
        for (int n = 5; n < 8; n++) {
            CHECK.sheetOf(x, 0, java.util.Arrays.copyOf(told, n));
            x.put(0, 4, 99);
            due("wrong in what is not whole", x.proves(0), n);
            x.put(0, 3, 99);
            due("wrong ahead of it", x.proves(0), 3);
        }
        ProvedMachine y = begun("fun a()int{}");
        y.sheet(0, 32, 9);
        due("wrong ahead of what is not whole", y.proves(0), 2);
        CHECK.sheetOf(y, 0, 0, 0, 1, 0, 1, 1, 0, 0, 5);
        due("not whole behind DONE", y.proves(0), 9);
    }

    /** A STEP behind DONE would HALT. */
    private static void behindDone() {
        ProvedMachine x = begun("fun a()int{}");
        CHECK.sheetOf(x, 0, 0, 0, 1, 0, 1, 1, 0, 0);
        due("up to DONE", x.proves(0), -1);
        CHECK.sheetOf(x, 0, 0, 0, 1, 0, 1, 1, 0, 0, 0, 0, 0, 0);
        due("behind DONE", x.proves(0), 8);
        due("not done", x.now(0), 0);
        due("no result", x.result(), NONE);
        x.step(2);
        due("halted", x.proves(0), HALTED);
        x.back(1);
        CHECK.sheetOf(x, 0, 1, 1, 0, 0);
        due("runs again", x.proves(0), -1);
    }

    /** "Nothing changes.": the STEPS, their count, what can be gone back, THE HEAP, what was printed. */
    private static void provesAgain() {
        String text = "fun f(row r)int{r[0]=5;print r[0];return r[0];}fun m()int{row r=new 1;print 1;return f(r)/0;}";
        for (int steps = 0; steps < 20; steps++) {
            ProvedMachine x = begun(text);
            if (steps > 0) {
                x.step(steps);
            }
            int ahead = Math.min(10, 20 - steps);
            int[] told = proofsAhead(x, ahead);
            CHECK.sheetOf(x, 0, told);
            String seen = Sight.of(x);
            due("proves", x.proves(0), -1);
            due("proves again", x.proves(0), -1);
            CHECK.same("behind proves at " + steps, Sight.of(x), seen);
            x.put(0, told.length - 1, 77);
            due("wrong", x.proves(0), told.length - 1);
            due("back", steps == 0 ? 0 : x.back(30), steps);
            due("all", x.step(400), 20);
            due("halted", x.now(0), 2);
        }
    }

    private static void provesOverClearing() {
        ProvedMachine x = begun("fun a()int{list l=none;while true{l=1:none;}}");
        x.step(2 + 16 * 7);
        int[] told = proofsAhead(x, 10);
        CHECK.sheetOf(x, 1, told);
        String seen = Sight.of(x);
        due("full", x.now(6), 16);
        due("over the clearing", x.proves(1), -1);
        CHECK.same("as it was", Sight.of(x), seen);
        due("not cleared", x.now(7), 0);
        // Of a STEP that would HALT by 6 the CLEARING leaves nothing, either.
        ProvedMachine y = begun("fun a()int{list l=none;while true{l=1:l;}}");
        y.step(2 + 16 * 7 + 4);
        y.sheet(0, 32, 4);
        due("would halt", y.proves(0), 0);
        due("not cleared", y.now(7), 0);
        due("runs", y.now(0), 0);
        due("back", y.back(30), 30);
        due("not cleared", y.now(7), 0);
    }

    // ---- sheets

    /** "SHEETS 0 to 3 .., or MISSING (all, at first)." */
    private static void fourSheets() {
        ProvedMachine x = begun("fun a()int{}");
        for (int s = 0; s < 4; s++) {
            due("missing", x.proves(s), MISSING);
            due("missing", x.put(s, 0, 1), MISSING);
        }
        for (int s = 0; s < 4; s++) {
            due("sheet " + s, x.sheet(s, 32, s + 1), s + 1);
        }
        for (int s = 0; s < 4; s++) {
            due("last of " + s, x.put(s, s, 1), 0);
            due("behind the last of " + s, x.put(s, s + 1, 1), BEYOND);
        }
        for (int s : new int[] {-1, 4, LEAST, MOST}) {
            due("sheet " + s, x.sheet(s, 32, 1), BEYOND);
            due("put " + s, x.put(s, 0, 1), BEYOND);
            due("proves " + s, x.proves(s), BEYOND);
            due("copy " + s, x.copy(s, 0, 0, 0, 1), BEYOND);
            due("copy " + s, x.copy(0, 0, s, 0, 1), BEYOND);
        }
    }

    /** "rows of up to 40 numbers", "SIZE: n is below 0. BEYOND: n is above 40." */
    private static void fortyNumbers() {
        ProvedMachine x = new ProvedMachine();
        for (int bits : new int[] {8, 16, 32}) {
            for (int n : new int[] {0, 1, 39, 40}) {
                due("sheet of " + n, x.sheet(1, bits, n), n);
                due("behind the last", x.put(1, n, 1), BEYOND);
                if (n > 0) {
                    due("the last", x.put(1, n - 1, 1), 0);
                }
            }
            for (int n : new int[] {41, 100, MOST}) {
                due("sheet of " + n, x.sheet(1, bits, n), BEYOND);
            }
            for (int n : new int[] {-1, -40, LEAST}) {
                due("sheet of " + n, x.sheet(1, bits, n), SIZE);
            }
            due("forty still", x.put(1, 39, 1), 0);
        }
    }

    /** "A sheet has n numbers, all 0": also where another one was. */
    private static void allZeros() {
        ProvedMachine x = begun("fun a()int{return 0;}");
        x.sheet(0, 32, 40);
        for (int i = 0; i < 40; i++) {
            x.put(0, i, i + 1);
        }
        due("forty anew", x.sheet(0, 32, 40), 40);
        // The first PROOF's last number is 0, and no other number is proved there.
        CHECK.sheetOf(x, 1, 0, 0, 1, 9);
        due("9 is wrong", x.proves(1), 3);
        for (int i = 0; i < 40; i++) {
            due("copy " + i, x.copy(0, i, 1, 3, 1), 1);
            due("0 at " + i, x.proves(1), -1);
            x.put(1, 3, 9);
        }
        // A shorter one, and then a longer one.
        x.put(0, 39, 5);
        x.put(0, 2, 5);
        x.sheet(0, 32, 3);
        x.sheet(0, 32, 40);
        for (int i : new int[] {2, 39}) {
            x.copy(0, i, 1, 3, 1);
            due("0 at " + i, x.proves(1), -1);
            x.put(1, 3, 9);
        }
    }

    /** "8, 16 or 32 bits", "Number i of a sheet becomes v (its lowest bits)" */
    private static void bitsOfSheets() {
        ProvedMachine x = begun("fun a()int{return -1;}");
        for (int bits = -1; bits <= 65; bits++) {
            boolean right = bits == 0 || bits == 8 || bits == 16 || bits == 32;
            due("bits " + bits, x.sheet(0, bits, 2), right ? bits == 0 ? 0 : 2 : BEYOND);
        }
        int[] bits = {8, 16, 32};
        int[] odd = {0, 1, -1, 127, 128, 255, 256, 32767, 32768, 65535, 65536, LEAST, MOST};
        for (int b : bits) {
            x.sheet(0, b, 1);
            for (int v : odd) {
                due("put " + v, x.put(0, 0, v), 0);
            }
            due("proves", x.proves(0), b == 32 ? 1 : KIND);
        }
        for (int a = 0; a < 3; a++) {
            for (int b = 0; b < 3; b++) {
                x.sheet(1, bits[a], 1);
                x.sheet(2, bits[b], 1);
                due("copy of " + bits[a] + " to " + bits[b], x.copy(1, 0, 2, 0, 1), a == b ? 1 : KIND);
                due("none of " + bits[a] + " to " + bits[b], x.copy(1, 0, 2, 0, 0), a == b ? 0 : KIND);
            }
        }
        // All of 32 bits are kept.
        CHECK.sheetOf(x, 3, 0, 0, 1, 1, 1, 1, 1, -1);
        due("32 bits", x.proves(3), -1);
    }

    /** "bits 0: it is MISSING: n (0)" */
    private static void missingAgain() {
        ProvedMachine x = begun("fun a()int{}");
        for (int n : new int[] {0, 1, 40}) {
            x.sheet(0, 32, 4);
            due("bits 0", x.sheet(0, 0, n), 0);
            due("missing", x.put(0, 0, 1), MISSING);
            due("missing", x.proves(0), MISSING);
            due("missing", x.copy(0, 0, 0, 0, 0), MISSING);
        }
        due("SIZE of one that will be missing", x.sheet(1, 0, -1), SIZE);
        due("BEYOND of one that will be missing", x.sheet(1, 0, 41), BEYOND);
        x.sheet(0, 32, 4);
        due("anew", x.proves(0), 2);
    }

    /** "BEYOND: no such number." */
    private static void putAtTheEnds() {
        ProvedMachine x = begun("fun a()int{return 6;}");
        CHECK.sheetOf(x, 0, 0, 0, 1, 6);
        due("right", x.proves(0), -1);
        for (int i : new int[] {-1, 4, 5, 39, 40, LEAST, MOST}) {
            due("put at " + i, x.put(0, i, 99), BEYOND);
            due("nothing came", x.proves(0), -1);
        }
        due("the last", x.put(0, 3, 7), 0);
        due("it came", x.proves(0), 3);
        due("the first", x.put(0, 0, 7), 0);
        due("it came", x.proves(0), 0);
    }

    /** "BEYOND: one has not so many, or from, to or n is below 0." */
    private static void copyAtTheEnds() {
        ProvedMachine x = begun("fun a()int{return 6;}");
        CHECK.sheetOf(x, 0, 9, 0, 0, 1, 6, 9);
        x.sheet(1, 32, 4);
        due("wrong yet", x.proves(1), 2);
        due("one has not so many", x.copy(0, 1, 1, 0, 5), BEYOND);
        due("one has not so many", x.copy(0, 3, 1, 0, 4), BEYOND);
        due("one has not so many", x.copy(0, 1, 1, 1, 4), BEYOND);
        due("below 0", x.copy(0, -1, 1, 0, 4), BEYOND);
        due("below 0", x.copy(0, 1, 1, -1, 4), BEYOND);
        due("below 0", x.copy(0, 1, 1, 0, -1), BEYOND);
        due("nothing came", x.proves(1), 2);
        due("all", x.copy(0, 1, 1, 0, 4), 4);
        due("they came", x.proves(1), -1);
        due("the last of both", x.copy(0, 5, 1, 3, 1), 1);
        due("it came", x.proves(1), 3);
        due("the first of both", x.copy(0, 0, 1, 0, 1), 1);
        due("it came", x.proves(1), 0);
        x.sheet(2, 32, 40);
        x.sheet(3, 32, 40);
        due("forty", x.copy(2, 0, 3, 0, 40), 40);
        due("forty-one", x.copy(2, 0, 3, 0, 41), BEYOND);
        due("one more than there are", x.copy(2, 1, 3, 0, 40), BEYOND);
        due("one more than there is room", x.copy(2, 0, 3, 1, 40), BEYOND);
        due("most", x.copy(2, MOST, 3, MOST, MOST), BEYOND);
        due("least", x.copy(2, LEAST, 3, LEAST, LEAST), BEYOND);
        due("round about", x.copy(2, MOST, 3, 0, 2), BEYOND);
        due("round about", x.copy(2, 0, 3, MOST, 2), BEYOND);
        due("round about", x.copy(2, 2, 3, 2, MOST), BEYOND);
    }

    /** Within one sheet all come as they were ahead of the act. */
    private static void copyWithinOne() {
        ProvedMachine x = begun("fun a()int{int i=0;while i<9{i=i+1;}}");
        int[] told = proofsAhead(x, 10);
        CHECK.sheetOf(x, 0, told);
        due("up", x.copy(0, 0, 0, 4, 36), 36);
        due("the second is the first", x.proves(0), 4);
        due("down", x.copy(0, 4, 0, 0, 36), 36);
        // The last one stands twice now: 36 numbers are right, and the last STEP's place is that of the ninth.
        due("nine are right", x.proves(0), 36);
        due("onto itself", x.copy(0, 0, 0, 0, 40), 40);
        due("nine are right", x.proves(0), 36);
        due("by one up", x.copy(0, 0, 0, 1, 39), 39);
        due("by one down", x.copy(0, 1, 0, 0, 39), 39);
        due("nine are right", x.proves(0), 36);
    }

    /** n may be 0, at the end, too. */
    private static void copyOfNone() {
        ProvedMachine x = begun("fun a()int{return 6;}");
        CHECK.sheetOf(x, 0, 0, 0, 1, 6);
        x.sheet(1, 32, 0);
        due("none", x.copy(0, 0, 1, 0, 0), 0);
        due("none at the end", x.copy(0, 4, 1, 0, 0), 0);
        due("none to the end", x.copy(1, 0, 0, 4, 0), 0);
        due("none behind the end", x.copy(0, 5, 1, 0, 0), BEYOND);
        due("none to behind the end", x.copy(1, 0, 0, 5, 0), BEYOND);
        due("one of none", x.copy(1, 0, 0, 0, 1), BEYOND);
        due("one to none", x.copy(0, 0, 1, 0, 1), BEYOND);
        due("as it was", x.proves(0), -1);
    }

    /** Neither text() nor start() changes a sheet. */
    private static void sheetsStay() {
        ProvedMachine x = begun("fun a()int{return 6;}");
        CHECK.sheetOf(x, 3, 0, 0, 1, 6, 1, 1, 0, 0);
        due("right", x.proves(3), -1);
        x.step(400);
        x.start();
        due("still right", x.proves(3), -1);
        x.clear();
        due("still right", x.proves(3), -1);
        Check.read(x, "fun a()int{return 5;}");
        due("none is begun", x.proves(3), NONE);
        x.start();
        due("of another text", x.proves(3), 3);
        Check.read(x, "fun");
        due("a fault leaves all", x.proves(3), 3);
    }
}
