import java.util.List;
import java.util.Map;
import java.util.Random;
import java.util.TreeMap;

/** Runs of calls, by chance but always the same ones, on the class and on the model side by side. */
public final class ModelTest {
    private static final int[] ODD = {-1, 0, 1, 2, 3, 4, 5, 7, 8, 9, 10, 16, 17, 18, 19, 30, 31, 32, 40, 41, 199, 200,
        400, 401, Integer.MAX_VALUE, Integer.MIN_VALUE};

    private final Random random;
    private final Check check = new Check();
    private ProvedMachine x = new ProvedMachine();
    private Model m = new Model();
    private String latest = "";
    private final Map<String, Integer> seen = new TreeMap<>();

    private ModelTest(long seed) {
        random = new Random(seed);
    }

    public static void main(String[] args) {
        int runs = args.length > 0 ? Integer.parseInt(args[0]) : 800;
        long seed = args.length > 1 ? Long.parseLong(args[1]) : 20261118;
        ModelTest test = new ModelTest(seed);
        for (int run = 0; run < runs && !test.check.isWrong(); run++) {
            test.run(run);
        }
        System.out.println("seen: " + test.seen);
        test.check.end();
    }

    private int odd() {
        return random.nextInt(20) == 0 ? random.nextInt() : ODD[random.nextInt(ODD.length)];
    }

    private int any(int n) {
        return random.nextInt(n);
    }

    private void due(String call, long got, long want) {
        check.due(call + " with " + latest.replace("\n", "\\n"), got, want);
    }

    private void saw(String what) {
        seen.merge(what, 1, Integer::sum);
    }

    private void run(int run) {
        x = new ProvedMachine();
        m = new Model();
        latest = "run " + run;
        for (int i = 0; i < 60 && !check.isWrong(); i++) {
            call();
        }
    }

    private void call() {
        switch (any(20)) {
            case 0, 1:
                readText();
                break;
            case 2:
                due("start", x.start(), m.start());
                break;
            case 3, 4, 5, 6, 7:
                int n = any(10) == 0 ? odd() : any(3) == 0 ? 400 : 1 + any(40);
                due("step " + n, x.step(n), m.step(n));
                break;
            case 8, 9:
                int b = any(10) == 0 ? odd() : 1 + any(30);
                due("back " + b, x.back(b), m.back(b));
                break;
            case 10:
                if (any(3) == 0) {
                    due("clear", x.clear(), m.clear());
                }
                break;
            case 11, 12, 13:
                proveSheet();
                break;
            case 14, 15:
                sheets();
                break;
            case 16:
                feedOdd();
                break;
            default:
                oddReads();
        }
        look();
    }

    private void feedOdd() {
        latest = "odd bytes";
        for (int i = any(40); i >= 0; i--) {
            int n = any(2) == 0 ? 8 : odd();
            long bytes = random.nextLong();
            due("feed " + n, x.feed(n, bytes), m.feed(n, bytes));
        }
        due("bytes fed", x.all(0), m.all(0));
        due("text", x.text(), m.text());
    }

    private String someText() {
        if (any(12) == 0) {
            return RandomText.makeLong(random);
        }
        String text = RandomText.make(random, any(3) == 0 ? 0.03 : 0);
        return any(4) == 0 ? RandomText.spoil(random, text) : text;
    }

    private void readText() {
        String text = someText();
        latest = text;
        for (int at = 0; at < text.length(); ) {
            int n = Math.min(1 + any(8), text.length() - at);
            long bytes = Check.packed(text, at, n);
            due("feed", x.feed(n, bytes), m.feed(n, bytes));
            at += n;
        }
        due("text", x.text(), m.text());
        saw("fault " + m.fault(0));
        for (int place = -1; place <= m.all(1); place++) {
            due("op " + place, x.code(place, false), m.code(place, false));
            due("argument " + place, x.code(place, true), m.code(place, true));
            due("shape " + place, x.shape(place), m.shape(place));
            int kind = any(6) - 1;
            due("as " + place + " " + kind, x.as(place, kind), m.as(place, kind));
        }
        for (int f = -1; f < 6; f++) {
            for (int what = -1; what < 5; what++) {
                due("fun " + f + " " + what, x.fun(f, what), m.fun(f, what));
            }
        }
        if (any(8) > 0) {
            due("start", x.start(), m.start());
        }
    }

    private void proveSheet() {
        int s = any(4);
        int n = any(3) == 0 ? any(41) : 4 * any(11);
        due("sheet", x.sheet(s, 32, n), m.sheet(s, 32, n));
        if (m.state != null) {
            List<long[]> proofs = m.ahead(10);
            int wrong = any(3) == 0 ? any(40) : -1;
            for (int i = 0; i < n && i / 4 < proofs.size(); i++) {
                int v = (int) proofs.get(i / 4)[i % 4] + (i == wrong ? 1 : 0);
                due("put", x.put(s, i, v), m.put(s, i, v));
            }
        }
        long proves = m.proves(s);
        saw(proves == -1 ? "proved" : proves < 0 ? "no proof" : "proved wrong");
        due("proves " + s, x.proves(s), proves);
    }

    private void sheets() {
        int s = any(12) == 0 ? odd() : any(4);
        int t = any(12) == 0 ? odd() : any(4);
        switch (any(3)) {
            case 0:
                int bits = any(8) == 0 ? odd() : 8 * any(5);
                int n = any(8) == 0 ? odd() : any(41);
                due("sheet " + bits + " " + n, x.sheet(s, bits, n), m.sheet(s, bits, n));
                break;
            case 1:
                int i = odd();
                int v = odd();
                due("put " + i, x.put(s, i, v), m.put(s, i, v));
                break;
            default:
                int from = any(4) == 0 ? odd() : any(10);
                int to = any(4) == 0 ? odd() : any(10);
                int count = any(4) == 0 ? odd() : any(10);
                due("copy " + from + " " + to + " " + count, x.copy(s, from, t, to, count),
                    m.copy(s, from, t, to, count));
        }
        due("proves " + s, x.proves(s), m.proves(s));
    }

    private void oddReads() {
        int a = odd();
        int b = odd();
        due("fault " + a, x.fault(a), m.fault(a));
        due("code " + a, x.code(a, true), m.code(a, true));
        due("as " + a + " " + b, x.as(a, b), m.as(a, b));
        due("shape " + a, x.shape(a), m.shape(a));
        due("fun " + a + " " + b, x.fun(a, b), m.fun(a, b));
        due("now " + a, x.now(a), m.now(a));
        due("stack " + a, x.stack(a, false), m.stack(a, false));
        due("variable " + a + " " + b, x.variable(a, b), m.variable(a, b));
        due("object " + a + " " + b, x.object(a, b), m.object(a, b));
        due("printed " + a, x.printed(a), m.printed(a));
        due("proof " + a + " " + b, x.proof(a, b), m.proof(a, b));
        due("found " + a, x.found(a), m.found(a));
        due("all " + a, x.all(a), m.all(a));
        due("proves " + a, x.proves(a), m.proves(a));
    }

    /** All that can be seen of the object. */
    private void look() {
        due("fault 0", x.fault(0), m.fault(0));
        due("fault 1", x.fault(1), m.fault(1));
        for (int what = 0; what < 9; what++) {
            due("now " + what, x.now(what), m.now(what));
        }
        if (m.state != null) {
            saw("halt " + m.state.halt);
            saw("clearings " + Math.min(2, m.state.clears));
            for (int i = 0; i <= m.now(3); i++) {
                due("stack " + i, x.stack(i, false), m.stack(i, false));
                due("stack type " + i, x.stack(i, true), m.stack(i, true));
            }
            for (int f = 0; f <= m.now(2); f++) {
                for (int v = 0; v < 7; v++) {
                    due("variable " + f + " " + v, x.variable(f, v), m.variable(f, v));
                }
            }
            for (int o = 0; o <= 17; o++) {
                for (int what = 0; what < 20; what++) {
                    due("object " + o + " " + what, x.object(o, what), m.object(o, what));
                }
            }
            for (int i = 0; i <= m.now(4); i++) {
                due("printed " + i, x.printed(i), m.printed(i));
            }
            for (int i = 0; i <= m.now(8); i++) {
                for (int k = 0; k < 4; k++) {
                    due("proof " + i + " " + k, x.proof(i, k), m.proof(i, k));
                }
            }
        }
        due("result", x.result(), m.result());
        for (int what = 0; what < 4; what++) {
            due("all " + what, x.all(what), m.all(what));
        }
        for (int k = 1; k < 8; k++) {
            due("found " + k, x.found(k), m.found(k));
        }
    }
}
