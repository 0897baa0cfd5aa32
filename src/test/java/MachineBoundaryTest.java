/**
 * The boundary cases of THE MACHINE, sentence by sentence: 'Terms' 3 and 4 of the document, promises 9 to 18. Each
 * method quotes the sentence that it tests; where a boundary has two sides both are asked.
 */
public final class MachineBoundaryTest {
    private static final Check CHECK = new Check();
    private static final long BEYOND = Check.BEYOND;
    private static final long NONE = Check.NONE;
    private static final long HALTED = Check.HALTED;
    private static final long LEAST_INT = Integer.MIN_VALUE;
    private static final long MOST_INT = Integer.MAX_VALUE;
    private static final int LEAST = Integer.MIN_VALUE;
    private static final int MOST = Integer.MAX_VALUE;
    // The least int and the most, by wrapping.
    private static final String LOWEST = "(65536*32768)";
    private static final String HIGHEST = "(65536*32768-1)";

    public static void main(String[] args) {
        newObject();
        begunAnew();
        firstValues();
        firstValuesWhereOthersWere();
        everyOpOverAnother();
        intsThatWrap();
        division();
        comparing();
        divisionByZero();
        placesOfRows();
        nothingToAsk();
        sizesOfRows();
        done();
        ninthFrame();
        thirtyOnTheStack();
        thirtyIsEnough();
        callsOfAFullStack();
        twentyPrinted();
        allLimitsAtOnce();
        sixteenObjects();
        heapIsFull();
        heldByTheStack();
        heldByVariables();
        heldByPairs();
        heldByNoInts();
        heldByNoSeventh();
        whatAStepTakes();
        leastFreeObject();
        rowsBesideOthers();
        haltsChangeNothing();
        stepsOneTo400();
        backOneTo30();
        thirtyStepsBack();
        backOverHalts();
        backOverAll();
        backOverClearings();
        startForgets();
        nowOfWhat();
        stackOutside();
        variablesOutside();
        objectsOutside();
        printedOutside();
        resultOfNone();
        clearByHand();
        CHECK.end();
    }

    private static void due(String what, long got, long want) {
        CHECK.due(what, got, want);
    }

    private static ProvedMachine begun(String text) {
        return CHECK.begun(text);
    }

    private static ProvedMachine ended(String text) {
        ProvedMachine x = begun(text);
        x.step(400);
        return x;
    }

    private static void is(String e, long want) {
        ProvedMachine x = ended("fun a()int{return " + e + ";}");
        due(e + " halts by", x.now(0), 1);
        due(e, x.result(), want);
    }

    private static void isTruth(String e, long want) {
        ProvedMachine x = ended("fun a()bool{return " + e + ";}");
        due(e + " halts by", x.now(0), 1);
        due(e, x.result(), want);
    }

    /** HALTS by this, at a place that has this OP; what is there is as it was ahead of the STEP. */
    private static void haltsAt(String text, long by, long op) {
        ProvedMachine x = ended(text);
        due("halt of " + text, x.now(0), by);
        due("op of the halt of " + text, x.code((int) x.now(1), false), op);
        due("no result of " + text, x.result(), NONE);
        due("halted " + text, x.step(1), HALTED);
        int steps = (int) x.now(5);
        ProvedMachine y = begun(text);
        y.step(steps);
        due("no halt yet of " + text, y.now(0), 0);
        String ahead = bare(y);
        due("the step that halts of " + text, y.step(1), 0);
        CHECK.same("behind the halt of " + text, bare(y), ahead);
    }

    /** All that a HALT leaves as it is: all but by what it HALTED, and the count of CLEARINGS. */
    private static String bare(ProvedMachine x) {
        return Sight.of(x).replaceAll(" now[07]=\\d+", "");
    }

    // ---- 1, 9

    /** "An empty TAPE; no CODE; no MACHINE is begun; sheets MISSING." */
    private static void newObject() {
        ProvedMachine x = new ProvedMachine();
        for (int what = 0; what < 4; what++) {
            due("all " + what, x.all(what), 0);
        }
        for (int k = 1; k < 8; k++) {
            due("found " + k, x.found(k), 0);
        }
        due("start", x.start(), NONE);
        due("step", x.step(1), NONE);
        due("back", x.back(1), NONE);
        due("now", x.now(0), NONE);
        due("stack", x.stack(0, false), NONE);
        due("variable", x.variable(0, 0), NONE);
        due("object", x.object(1, 0), NONE);
        due("printed", x.printed(0), NONE);
        due("result", x.result(), NONE);
        due("clear", x.clear(), NONE);
        due("proof", x.proof(0, 0), NONE);
        due("found NONE", x.found(6), 11);
        for (int s = 0; s < 4; s++) {
            due("sheet " + s, x.proves(s), Check.MISSING);
            due("copy " + s, x.copy(s, 0, s, 0, 0), Check.MISSING);
        }
        due("text", x.text(), -1);
        due("still none", x.start(), NONE);
    }

    /** "begun by start(): one FRAME (of the last FUN, at its first place), an empty STACK, an empty HEAP, .." */
    private static void begunAnew() {
        ProvedMachine x = CHECK.with("fun f(int x)int{return x;}fun m()int{print 1;row r=new 2;return f(2/0);}");
        due("none is begun", x.all(3), 0);
        for (int turn = 0; turn < 3; turn++) {
            due("start", x.start(), x.all(1));
            due("begun", x.all(3), 1);
            long[] want = {0, 4, 1, 0, 0, 0, 0, 0, 0};
            for (int what = 0; what < 9; what++) {
                due("now " + what, x.now(what), want[what]);
            }
            due("its variable", x.variable(0, 0), 0);
            due("one variable", x.variable(0, 1), BEYOND);
            due("no value", x.stack(0, false), BEYOND);
            due("nothing printed", x.printed(0), BEYOND);
            for (int o = 1; o <= 16; o++) {
                due("free", x.object(o, 0), 0);
            }
            x.step(3 + 2 * turn);
            if (turn == 1) {
                x.clear();
            }
        }
    }

    /** "variables (0, false, no row, none at first; PARAMS their values)" */
    private static void firstValues() {
        ProvedMachine x = begun("fun f(int p)int{int q=1;print p;}fun m()int{int a=1;bool b=true;row c=new 1;list d=1:none;"
            + "print f(7);print f(8);}");
        for (int v = 0; v < 4; v++) {
            due("first value " + v, x.variable(0, v), 0);
        }
        // A FRAME that stands where another one stood has first values, too.
        x.step(2 + 2 + 3 + 4 + 2);
        due("in the first call", x.variable(1, 0), 7);
        due("its own", x.variable(1, 1), 0);
        x.step(2);
        due("its own", x.variable(1, 1), 1);
        for (int i = 0; i < 40 && x.now(2) == 2; i++) {
            x.step(1);
        }
        x.step(3);
        due("in the second call", x.variable(1, 0), 8);
        due("its own", x.variable(1, 1), 0);
        String[] types = {"int", "bool", "row", "list"};
        for (int t = 0; t < 4; t++) {
            ProvedMachine y = begun("fun a()" + types[t] + "{}");
            y.step(1);
            due("first of " + types[t], y.stack(0, false), 0);
            due("its type", y.stack(0, true), t);
            y.step(1);
            due("result", y.result(), 0);
        }
    }

    private static void firstValuesWhereOthersWere() {
        ProvedMachine x = begun("fun f(int p)int{int q=4;int r=5;return p;}fun m()int{print 1+(2+(3+(4+5)));print f(6);"
            + "return f(7);}");
        // What was on the STACK, or in a FRAME there, is no first value.
        for (int i = 0; i < 60 && x.now(2) < 2; i++) {
            x.step(1);
        }
        due("its param", x.variable(1, 0), 6);
        due("its second", x.variable(1, 1), 0);
        due("its third", x.variable(1, 2), 0);
        for (int i = 0; i < 60 && x.now(2) == 2; i++) {
            x.step(1);
        }
        x.step(3);
        due("its param", x.variable(1, 0), 7);
        due("its second", x.variable(1, 1), 0);
        due("its third", x.variable(1, 2), 0);
        due("no fourth", x.variable(1, 3), BEYOND);
    }

    /** "5 to 20 take one or two and put one": over a VALUE that none of them may take. */
    private static void everyOpOverAnother() {
        String[] e = {"-4", "not true", "size new 3", "head(5:none)", "tail l", "new 2", "(new 3)[1]", "7:none",
            "true or false", "true and false", "1<2", "3=3", "8+9", "8-9", "8*9", "9/4"};
        String[] types = {"int", "bool", "int", "int", "list", "row", "int", "list", "bool", "bool", "bool", "bool", "int",
            "int", "int", "int"};
        long[] told = {-4, 0, 3, 5, 1, 1, 0, 1, 1, 0, 1, 1, 17, -1, 72, 2};
        int[] taken = {1, 1, 1, 1, 1, 1, 2, 2, 2, 2, 2, 2, 2, 2, 2, 2};
        for (int i = 0; i < e.length; i++) {
            int op = 5 + i;
            String list = e[i].equals("tail l") ? "list l=5:6:none;" : "";
            ProvedMachine x = begun("fun f(int a," + types[i] + " b)int{}fun m()int{" + list + "return f(66," + e[i] + ");}");
            for (int n = 0; n < 20 && (x.now(8) == 0 || x.code((int) x.proof(0, 0), false) != op); n++) {
                x.step(1);
            }
            due("taken and put by " + op, x.proof(0, 1) - x.proof(0, 2), taken[i] - 1);
            due("two are there behind " + op, x.now(3), 2);
            due("the lower behind " + op, x.stack(0, false), 66);
            due("told by " + op, x.stack(1, false), told[i]);
            due("its type by " + op, x.stack(1, true), java.util.List.of("int", "bool", "row", "list").indexOf(types[i]));
            x.back(1);
            due("as ahead of " + op, x.now(3), 1 + taken[i]);
        }
    }

    // ---- values

    /** "ints (32 bits, wrapping)" */
    private static void intsThatWrap() {
        is(HIGHEST, MOST_INT);
        is(LOWEST, LEAST_INT);
        is(HIGHEST + "+1", LEAST_INT);
        is(LOWEST + "-1", MOST_INT);
        is("-" + LOWEST, LEAST_INT);
        is("-" + HIGHEST, LEAST_INT + 1);
        is(LOWEST + "*-1", LEAST_INT);
        is(LOWEST + "+" + LOWEST, 0);
        is(HIGHEST + "+" + HIGHEST, -2);
        is(HIGHEST + "*2", -2);
        is(HIGHEST + "*" + HIGHEST, 1);
        is("65536*65536", 0);
        is("99999*99999", (int) (99999L * 99999L));
        is("0-" + LOWEST, LEAST_INT);
        is("-0", 0);
        isTruth(HIGHEST + "+1<0", 1);
    }

    /** "/ cut towards 0 (least by -1: least)" */
    private static void division() {
        is("7/2", 3);
        is("-7/2", -3);
        is("7/-2", -3);
        is("-7/-2", 3);
        is("1/2", 0);
        is("-1/2", 0);
        is("0/5", 0);
        is(LOWEST + "/-1", LEAST_INT);
        is(LOWEST + "/1", LEAST_INT);
        is(LOWEST + "/2", LEAST_INT / 2);
        is("(" + LOWEST + "+1)/-1", MOST_INT);
        is(HIGHEST + "/-1", -MOST_INT);
        is("5/-1", -5);
        is("1/" + LOWEST, 0);
        is(LOWEST + "/" + LOWEST, 1);
    }

    /** "= of bools, too"; ints are compared with their signs. */
    private static void comparing() {
        isTruth("1<2", 1);
        isTruth("2<2", 0);
        isTruth("3<2", 0);
        isTruth("-1<0", 1);
        isTruth("0<-1", 0);
        isTruth(LOWEST + "<" + HIGHEST, 1);
        isTruth(HIGHEST + "<" + LOWEST, 0);
        isTruth("0=-0", 1);
        isTruth(LOWEST + "=" + LOWEST, 1);
        isTruth(LOWEST + "=" + HIGHEST, 0);
        isTruth("true=true", 1);
        isTruth("false=false", 1);
        isTruth("true=false", 0);
        isTruth("false=true", 0);
        for (int a = 0; a < 2; a++) {
            for (int b = 0; b < 2; b++) {
                String lower = a == 1 ? "true" : "false";
                String upper = b == 1 ? "true" : "false";
                isTruth(lower + " or " + upper, a | b);
                isTruth(lower + " and " + upper, a & b);
            }
        }
        isTruth("not true", 0);
        isTruth("not false", 1);
    }

    // ---- halts

    /** "2 / by 0" */
    private static void divisionByZero() {
        haltsAt("fun a()int{return 1/0;}", 2, 20);
        haltsAt("fun a()int{return 0/0;}", 2, 20);
        haltsAt("fun a()int{return " + LOWEST + "/0;}", 2, 20);
        haltsAt("fun a()int{return 1/(65536*65536);}", 2, 20);
        is("1/1", 1);
        is("1/-1", -1);
    }

    /** "3 no such place in a row" */
    private static void placesOfRows() {
        for (int size = 0; size <= 9; size++) {
            String row = "(new " + size + ")";
            if (size > 0) {
                is(row + "[0]", 0);
                is(row + "[" + (size - 1) + "]", 0);
            }
            haltsAt("fun a()int{return " + row + "[" + size + "];}", 3, 11);
            haltsAt("fun a()int{return " + row + "[-1];}", 3, 11);
            haltsAt("fun a()int{return " + row + "[" + LOWEST + "];}", 3, 11);
            haltsAt("fun a()int{return " + row + "[" + HIGHEST + "];}", 3, 11);
            String set = "fun a()int{row r=new " + size + ";r[";
            haltsAt(set + size + "]=1;}", 3, 22);
            haltsAt(set + "-1]=1;}", 3, 22);
            haltsAt(set + LOWEST + "]=1;}", 3, 22);
            haltsAt(set + HIGHEST + "]=1;}", 3, 22);
            if (size > 0) {
                ProvedMachine x = ended(set + (size - 1) + "]=7;r[0]=r[" + (size - 1) + "]+1;return r[0];}");
                due("first and last of " + size, x.result(), 8);
                due("the last", x.object(1, 9 + size), size == 1 ? 8 : 7);
            }
        }
    }

    /** "4 size, [ ] of no row, head, tail of none" */
    private static void nothingToAsk() {
        String no = "fun a()int{if false{row r=new 1;}";
        haltsAt(no + "return size r;}", 4, 7);
        haltsAt(no + "return r[0];}", 4, 11);
        haltsAt(no + "return r[-1];}", 4, 11);
        haltsAt(no + "r[0]=1;}", 4, 22);
        haltsAt(no + "r[9]=1;}", 4, 22);
        haltsAt("fun a()int{return head none;}", 4, 8);
        haltsAt("fun a()list{return tail none;}", 4, 9);
        haltsAt("fun a()list{return tail tail(1:none);}", 4, 9);
        haltsAt("fun a()int{return head tail(1:none);}", 4, 8);
        is("size new 0", 0);
        is("head(3:none)", 3);
        is("head tail(3:4:none)", 4);
        ProvedMachine x = ended("fun a()list{return tail(3:none);}");
        due("tail of the last", x.result(), 0);
        haltsAt("fun f()row{}fun m()int{return size f();}", 4, 7);
        haltsAt("fun f()list{}fun m()int{return head f();}", 4, 8);
    }

    /** "5 new of below 0 or above 9", "a row of 0 to 9 ints" */
    private static void sizesOfRows() {
        for (int size = 0; size <= 9; size++) {
            is("size new " + size, size);
            ProvedMachine x = ended("fun a()row{return new " + size + ";}");
            due("its size", x.object(1, 1), size);
            for (int i = 0; i < size; i++) {
                due("zeros", x.object(1, 10 + i), 0);
            }
            due("no more", x.object(1, 10 + size), BEYOND);
        }
        haltsAt("fun a()row{return new 10;}", 5, 10);
        haltsAt("fun a()row{return new -1;}", 5, 10);
        haltsAt("fun a()row{return new 99999;}", 5, 10);
        haltsAt("fun a()row{return new " + LOWEST + ";}", 5, 10);
        haltsAt("fun a()row{return new " + HIGHEST + ";}", 5, 10);
    }

    /** "the last FRAME's is THE RESULT: it is DONE", "1 DONE" */
    private static void done() {
        ProvedMachine x = begun("fun f()int{return 4;}fun m()int{return f()+1;}");
        due("all but the last", x.step(5), 5);
        due("runs", x.now(0), 0);
        due("no result", x.result(), NONE);
        due("the last", x.step(400), 1);
        due("done", x.now(0), 1);
        due("result", x.result(), 5);
        due("frames", x.now(2), 0);
        due("place", x.now(1), 0);
        due("values", x.now(3), 0);
        due("steps", x.now(5), 6);
        due("halted", x.step(1), HALTED);
        due("halted", x.step(400), HALTED);
        due("no frame", x.variable(0, 0), BEYOND);
        // What a FUN that is not the first gives back is no RESULT.
        ProvedMachine y = begun("fun f()int{return 4;}fun m()int{return f();}");
        y.step(3);
        due("runs", y.now(0), 0);
        due("given back", y.stack(0, false), 4);
        due("one frame", y.now(2), 1);
    }

    /** "7 .. or a ninth FRAME" */
    private static void ninthFrame() {
        String f = "fun f(int n)int{if n<1{return 0;}return f(n-1);}fun m()int{return f(";
        ProvedMachine x = begun(f + "6);}");
        long most = 0;
        for (int i = 0; i < 200 && x.now(0) == 0; i++) {
            x.step(1);
            most = Math.max(most, x.now(2));
        }
        due("done", x.now(0), 1);
        due("eight frames", most, 8);
        haltsAt(f + "7);}", 7, 4);
        ProvedMachine y = ended(f + "7);}");
        due("eight frames", y.now(2), 8);
        due("what the CALL would take is there", y.stack(0, false), 0);
        due("and no more", y.now(3), 1);
        due("the last frame's", y.variable(7, 0), 1);
        due("no ninth", y.variable(8, 0), BEYOND);
    }

    /** A text that has so many VALUES on the STACK, in so many FRAMES, when f's E is put. */
    private static String full(String type, String e, String first, String most) {
        return "fun z()int{}fun f(" + type + " p)int{return 1+1*(1+1*f(" + e + "));}fun m()int{return " + most + first
            + ")".repeat(1 + most.length() - most.replace("(", "").length()) + ";}";
    }

    /** "7 more than 30 on the STACK": each OP that puts one more is the thirty-first. */
    private static void thirtyOnTheStack() {
        // Two in the first FRAME and four in each of seven more.
        String two = "1+1*f";
        String[][] puts = {{"int", "1", "0"}, {"bool", "true", "1"}, {"list", "none", "2"}, {"int", "p", "3"}};
        for (String[] put : puts) {
            String text = full(put[0], put[1], put[1].equals("p") ? "(1" : "(" + put[1], two);
            haltsAt(text, 7, Long.parseLong(put[2]));
            ProvedMachine x = ended(text);
            due("thirty", x.now(3), 30);
            due("eight frames", x.now(2), 8);
            due("the thirtieth", x.stack(29, false), 1);
        }
        // Six in the first FRAME and four in each of six more: z is the eighth.
        String text = full("int", "z()", "(z()", "1+1*(1+1*(1+1*f");
        haltsAt(text, 7, 27);
        ProvedMachine x = ended(text);
        due("thirty", x.now(3), 30);
        due("eight frames", x.now(2), 8);
        due("in z", x.now(1), 0);
    }

    /** The thirtieth of each kind can be put. */
    private static void thirtyIsEnough() {
        String one = "1*f";
        String[][] puts = {{"int", "1"}, {"bool", "true"}, {"list", "none"}, {"int", "p"}};
        for (String[] put : puts) {
            String text = full(put[0], put[1], put[1].equals("p") ? "(1" : "(" + put[1], one);
            haltsAt(text, 7, 4);
            ProvedMachine x = ended(text);
            due("thirty", x.now(3), 30);
            due("eight frames", x.now(2), 8);
        }
        // 27 puts the thirtieth, and 25 gives it back.
        String text = full("int", "z()", "(z()", "1+1*(1+1*(1*f");
        haltsAt(text, 7, 0);
        ProvedMachine x = ended(text);
        due("thirty", x.now(3), 30);
        due("all frames of f", x.now(2), 8);
        due("printed", x.now(4), 0);
    }

    /** A CALL puts nothing on the STACK: it can be done when that is full. */
    private static void callsOfAFullStack() {
        ProvedMachine x = begun(full("int", "z()", "(z()", "1+1*(1+1*(1+1*f"));
        for (int i = 0; i < 400 && x.now(2) < 8; i++) {
            due("a step", x.step(1), 1);
        }
        due("thirty", x.now(3), 30);
        due("the latest was a call", x.code((int) x.proof(0, 0), false), 4);
        due("thirty ahead of it", x.proof(0, 1), 30);
        due("thirty behind it", x.proof(0, 2), 30);
        due("the next one halts", x.step(1), 0);
        due("back", x.back(1), 1);
        due("seven frames", x.now(2), 7);
    }

    /** "8 the twenty-first to be printed" */
    private static void twentyPrinted() {
        String text = "fun a()int{int i=0;while i<@{i=i+1;print i*i;}return i;}";
        ProvedMachine x = begun(text.replace("@", "20"));
        x.step(400);
        due("done", x.now(0), 1);
        due("printed", x.now(4), 20);
        for (int i = 0; i < 20; i++) {
            due("printed " + i, x.printed(i), (i + 1) * (i + 1));
        }
        haltsAt(text.replace("@", "21"), 8, 26);
        ProvedMachine y = ended(text.replace("@", "21"));
        due("printed", y.now(4), 20);
        due("the twenty-first is not", y.printed(20), BEYOND);
        due("it is there", y.stack(0, false), 21 * 21);
        y.back(30);
        due("less were printed", y.now(4), 18);
        y.step(400);
        due("again", y.now(0), 8);
        haltsAt("fun a()int{while true{print true;}}", 8, 26);
    }

    /** 8 FRAMES of six variables, 30 VALUES, 20 printed and 16 OBJECTS stand side by side, and all goes on from there. */
    private static void allLimitsAtOnce() {
        ProvedMachine x = begun("fun f(int a,int b,int c,list d,int e,row g)int{print b;print c;if a<1{d=8:d;print 9;g[8]=a;}"
            + "else{e=1+1*(e-0*f(a-1,b+1,c*2,a:d,e+7,new 9));}print e;return e;}"
            + "fun m()int{return f(6,10,1,none,50,new 1);}");
        long most = 0;
        for (int i = 0; i < 400 && x.now(2) < 8; i++) {
            due("a step", x.step(1), 1);
            most = Math.max(most, x.now(3));
        }
        due("most on the stack", most, 30);
        due("on the stack", x.now(3), 24);
        due("nothing gets free", x.clear(), 0);
        due("objects", x.now(6), 7 + 6);
        for (int i = 0; i < 24; i++) {
            due("stack " + i, x.stack(i, false), i % 4 < 2 ? 1 : i % 4 == 2 ? 50 + 7 * (i / 4) : 0);
            due("stack type " + i, x.stack(i, true), 0);
        }
        framesAreWhole(x);
        due("printed", x.now(4), 12);
        x.step(2 + 2 + 4 + 4 + 2);
        due("objects", x.now(6), 7 + 7);
        due("the last's list", x.object((int) x.variable(7, 3), 1), 8);
        framesAreWhole(x);
        x.step(400);
        due("halted by printing", x.now(0), 8);
        long[] printed = {10, 1, 11, 2, 12, 4, 13, 8, 14, 16, 15, 32, 16, 64, 9, 92, 86, 79, 72, 65};
        for (int i = 0; i < 20; i++) {
            due("printed " + i, x.printed(i), printed[i]);
        }
        due("frames", x.now(2), 3);
        due("the next to be printed", x.stack(4, false), 58);
    }

    private static void framesAreWhole(ProvedMachine x) {
        for (int f = 1; f < 8; f++) {
            due("a of frame " + f, x.variable(f, 0), 7 - f);
            due("b of frame " + f, x.variable(f, 1), 9 + f);
            due("c of frame " + f, x.variable(f, 2), 1 << (f - 1));
            due("e of frame " + f, x.variable(f, 4), 43 + 7 * f);
            due("g of frame " + f, x.object((int) x.variable(f, 5), 1), f == 1 ? 1 : 9);
            due("no seventh of frame " + f, x.variable(f, 6), BEYOND);
        }
    }

    // ---- the heap

    /** "THE HEAP has OBJECTS 1 to 16", "If none is free THE HEAP is CLEARED first" */
    private static void sixteenObjects() {
        // true, 23, 0, new, 21, 24: six a turn.
        ProvedMachine x = begun("fun a()int{while true{row r=new 0;}}");
        for (int o = 1; o <= 16; o++) {
            x.step(4);
            due("object " + o, x.stack(0, false), o);
            due("so many", x.now(6), o);
            due("not cleared", x.now(7), 0);
            x.step(2);
        }
        x.step(3);
        due("not cleared", x.now(7), 0);
        x.step(1);
        due("cleared", x.now(7), 1);
        due("the one held and the new one", x.now(6), 2);
        due("the new one", x.stack(0, false), 1);
        due("the one held", x.variable(0, 0), 16);
        ProvedMachine y = begun("fun a()int{while true{list l=1:none;}}");
        y.step(16 * 7 + 4);
        due("not cleared", y.now(7), 0);
        y.step(1);
        due("cleared by a pair, too", y.now(7), 1);
        due("the new one", y.stack(0, false), 1);
    }

    /** "6 no OBJECT is free behind CLEARING (which was done, and counts)" */
    private static void heapIsFull() {
        String text = "fun a()int{list l=none;int i=0;while i<@{l=i:l;i=i+1;}row r=new 9;}";
        ProvedMachine x = ended(text.replace("@", "15"));
        due("the sixteenth is found", x.now(0), 1);
        due("not cleared", x.now(7), 0);
        due("sixteen", x.now(6), 16);
        haltsAt(text.replace("@", "16"), 6, 10);
        haltsAt(text.replace("@", "17"), 6, 12);
        ProvedMachine y = begun(text.replace("@", "17"));
        y.step(4 + 16 * 13 + 4 + 2);
        due("full", y.now(6), 16);
        due("not cleared", y.now(7), 0);
        due("would put a pair", y.code((int) y.now(1), false), 12);
        due("can't", y.step(1), 0);
        due("by 6", y.now(0), 6);
        due("it counts", y.now(7), 1);
        due("all are held", y.now(6), 16);
        due("no step", y.step(1), HALTED);
        due("cleared once", y.now(7), 1);
        due("another start", y.start(), y.all(1));
        due("none was cleared", y.now(7), 0);
    }

    /** "held by the STACK": below, in a FRAME ahead, too. */
    private static void heldByTheStack() {
        // The row that g gets is on the STACK alone while f makes and forgets 16 PAIRS.
        ProvedMachine x = begun("fun f()int{int i=0;while i<16{i=head(i+1:none);}return i;}"
            + "fun g(row r,int i)int{return size r+i;}fun m()int{return g(new 3,f());}");
        x.step(400);
        due("done", x.now(0), 1);
        due("cleared", x.now(7), 1);
        due("the row was held", x.result(), 3 + 16);
        due("a row still", x.object(1, 0), 1);
        // A list on the STACK holds all of its PAIRS.
        ProvedMachine y = begun("fun f()int{int i=0;while i<16{i=head(i+1:none);}return i;}"
            + "fun g(list l,int i)int{return head tail l;}fun m()int{return g(5:6:none,f());}");
        y.step(400);
        due("done", y.now(0), 1);
        due("cleared", y.now(7), 1);
        due("the list was held", y.result(), 6);
    }

    /** "by variables of all FRAMES" */
    private static void heldByVariables() {
        ProvedMachine x = begun("fun f(row p)int{int i=0;while i<16{i=head(i+1:none);}return size p;}"
            + "fun m()int{row r=new 2;list l=7:8:none;row s=new 5;print f(s);print head tail l;return size r;}");
        x.step(400);
        due("done", x.now(0), 1);
        due("cleared", x.now(7), 1);
        due("by a param", x.printed(0), 5);
        due("by a variable of the frame ahead", x.printed(1), 8);
        due("by the first", x.result(), 2);
        // A FRAME that has ended holds nothing.
        ProvedMachine y = begun("fun f()int{row r=new 1;return 0;}fun m()int{row q=new 1;print f();print f();print 1;}");
        y.step(3 + 2 * 7);
        due("three objects", y.now(6), 3);
        due("those of ended frames", y.clear(), 2);
        due("the first is held", y.object(1, 0), 1);
    }

    /** "and by PAIRS that are held" */
    private static void heldByPairs() {
        // 16 PAIRS in one list are held by one variable.
        ProvedMachine x = begun("fun a()int{list l=none;int i=0;while i<16{l=i:l;i=i+1;}l=tail l;print 1;}");
        x.step(4 + 16 * 13 + 4 + 3);
        due("full", x.now(6), 16);
        due("the first of the list alone", x.clear(), 1);
        due("the last one made", x.object(16, 0), 0);
        for (int o = 1; o <= 15; o++) {
            due("pair", x.object(o, 0), 2);
            due("its int", x.object(o, 1), o - 1);
            due("its list", x.object(o, 2), o - 1);
        }
        // PAIRS hold what is behind them, not what is ahead.
        ProvedMachine y = begun("fun a()int{list l=1:2:3:none;l=tail tail l;print 1;}");
        y.step(8 + 4);
        due("two", y.clear(), 2);
        due("the last of the list", y.object(1, 1), 3);
        due("free", y.object(2, 0), 0);
        due("free", y.object(3, 0), 0);
    }

    /** Ints and bools hold nothing, whatever they are; nor do a row's ints, nor a PAIR's int. */
    private static void heldByNoInts() {
        ProvedMachine x = begun("fun a()int{row r=new 1;r=new 2;r[0]=1;int i=1;bool b=true;list l=1:none;r[1]=1;print 1+1;}");
        x.step(6 + 4 + 2 + 2 + 4 + 4 + 2);
        due("three objects", x.now(6), 3);
        due("one on the stack", x.stack(1, false), 1);
        due("the first is free", x.clear(), 1);
        due("the first is free", x.object(1, 0), 0);
        due("held", x.object(2, 0), 1);
        due("held", x.object(3, 0), 2);
        // A variable of another FUN at the same number is of another TYPE.
        ProvedMachine y = begun("fun f(int a,row b)int{print a;}fun m()int{row r=new 1;int i=2;row s=new 2;r=s;"
            + "print f(1,r);}");
        y.step(3 + 2 + 3 + 2 + 3);
        due("frames", y.now(2), 2);
        due("the first one is free", y.clear(), 1);
        due("held", y.object(2, 1), 2);
        // A VALUE that was taken from the STACK holds nothing, though another one might stand there.
        ProvedMachine z = begun("fun a()int{print size new 3;print 1;}");
        z.step(4);
        due("free", z.clear(), 1);
    }

    /** What stands behind the sixth variable of a FRAME is none of its variables. */
    private static void heldByNoSeventh() {
        ProvedMachine x = begun("fun z()int{}fun g(int a,int b,int c,int d,int e,int f)int{if a<1{return 0;}"
            + "return g(0,0,0,0,0,0);}fun m()int{row r=new 1;r=new 2;return g(1,0,0,0,0,0);}");
        for (int i = 0; i < 60 && x.now(2) < 3; i++) {
            x.step(1);
        }
        due("three frames", x.now(2), 3);
        due("the first row is held by none", x.clear(), 1);
        due("it is free", x.object(1, 0), 0);
        due("the second is held", x.object(2, 0), 1);
    }

    /** "(what this STEP takes, too)" */
    private static void whatAStepTakes() {
        // The list that : takes is on the STACK alone.
        ProvedMachine x = begun("fun a()list{int i=0;while i<15{i=head(i+1:none);}return 1:2:none;}");
        x.step(400);
        due("done", x.now(0), 1);
        due("cleared", x.now(7), 1);
        long list = x.result();
        due("the latest", x.object((int) list, 1), 1);
        due("what it took", x.object((int) x.object((int) list, 2), 1), 2);
        due("which was made ahead", x.object((int) list, 2), 16);
        due("two", x.now(6), 2);
    }

    /** "new and : take the least free OBJECT" */
    private static void leastFreeObject() {
        ProvedMachine x = begun("fun a()int{row a=new 1;row b=new 2;list c=3:none;row d=new 4;b=a;d=a;b=new 5;d=new 6;"
            + "c=7:none;print 1;}");
        x.step(3 + 3 + 4 + 3 + 2 + 2);
        due("two are not held", x.clear(), 2);
        x.step(3 + 3);
        due("the least free", x.variable(0, 1), 2);
        due("the next free", x.variable(0, 3), 4);
        x.step(4);
        due("behind all", x.variable(0, 2), 5);
        due("its size", x.object(2, 1), 5);
        due("its size", x.object(4, 1), 6);
        due("its int", x.object(5, 1), 7);
        due("the one ahead of it stays till it is cleared", x.object(3, 1), 3);
    }

    /** A row of 9 in a place between others leaves those as they are. */
    private static void rowsBesideOthers() {
        ProvedMachine x = begun("fun a()int{row a=new 9;row b=new 9;row c=new 9;a[0]=1;a[8]=2;c[0]=3;c[8]=4;b=a;b=new 9;"
            + "b[0]=5;b[8]=6;print 1;}");
        x.step(9 + 16 + 2);
        due("the second is free", x.clear(), 1);
        x.step(3 + 8);
        long[][] want = {{1, 1, 2}, {2, 5, 6}, {3, 3, 4}};
        for (long[] w : want) {
            due("a row", x.object((int) w[0], 0), 1);
            due("its size", x.object((int) w[0], 1), 9);
            due("its first", x.object((int) w[0], 10), w[1]);
            due("its last", x.object((int) w[0], 18), w[2]);
        }
        due("three", x.now(6), 3);
        due("no fourth", x.object(4, 0), 0);
    }

    /** "a STEP that can't be done changes nothing": what it has found is gone over once more by hand. */
    private static void haltsChangeNothing() {
        ProvedMachine x = begun("fun a()int{int x=4;return x/(x-4);}");
        due("steps", x.step(400), 6);
        due("values", x.now(3), 2);
        due("lower", x.stack(0, false), 4);
        due("upper", x.stack(1, false), 0);
        due("place", x.now(1), 6);
        due("steps", x.now(5), 6);
        due("can go back", x.now(8), 6);
        due("the latest proof", x.proof(0, 0), 5);
        ProvedMachine y = ended("fun a()int{row r=new 2;r[1]=5;r[2]=6;}");
        due("halt", y.now(0), 3);
        due("row stays", y.object(1, 11), 5);
        due("three on the stack", y.now(3), 3);
    }

    // ---- step, back

    /** "Up to n STEPS (1 to 400), till it HALTS: how many were done. BEYOND. NONE: none is begun. HALTED: it is." */
    private static void stepsOneTo400() {
        ProvedMachine x = begun("fun a()int{while true{}}");
        for (int n : new int[] {0, 401, -1, LEAST, MOST}) {
            due("step " + n, x.step(n), BEYOND);
        }
        due("none was done", x.now(5), 0);
        due("one", x.step(1), 1);
        due("399", x.step(399), 399);
        due("400", x.step(400), 400);
        due("steps", x.now(5), 800);
        ProvedMachine y = begun("fun a()int{}");
        due("fewer", y.step(400), 2);
        ProvedMachine z = begun("fun a()int{}");
        due("just as many", z.step(2), 2);
        due("it is done", z.now(0), 1);
        ProvedMachine h = begun("fun a()int{return head none;}");
        due("one ahead of the halt", h.step(1), 1);
        due("runs", h.now(0), 0);
        due("none", h.step(1), 0);
        due("halted", h.now(0), 4);
        due("it is", h.step(1), HALTED);
        ProvedMachine w = begun("fun a()int{return head none;}");
        due("one, and then it halts", w.step(2), 1);
        due("halted", w.now(0), 4);
        due("found HALTED", h.found(7), 1);
        due("found none", w.found(7), 0);
    }

    /** "BACK by up to n STEPS (1 to 30): how many. BEYOND. NONE: none is begun, or there is no STEP to go back." */
    private static void backOneTo30() {
        ProvedMachine x = begun("fun a()int{while true{}}");
        for (int n : new int[] {0, 31, -1, LEAST, MOST}) {
            due("back " + n, x.back(n), BEYOND);
        }
        due("no step", x.back(1), NONE);
        due("no step", x.back(30), NONE);
        x.step(3);
        due("more than there are", x.back(30), 3);
        due("no step", x.back(1), NONE);
        x.step(5);
        due("one", x.back(1), 1);
        due("just as many", x.back(4), 4);
        due("steps", x.now(5), 0);
    }

    /** "at most 30 STEPS can be gone back" */
    private static void thirtyStepsBack() {
        for (int done = 28; done <= 33; done++) {
            ProvedMachine x = begun("fun a()int{int i=0;while true{i=i+1;}}");
            x.step(done);
            int can = Math.min(done, 30);
            due("can", x.now(8), can);
            due("the oldest proof", x.proof(can - 1, 0) < 0 ? 1 : 0, 0);
            due("no older one", x.proof(can, 0), BEYOND);
            due("goes", x.back(30), can);
            due("steps", x.now(5), done - can);
            due("no more", x.back(1), NONE);
            due("none can", x.now(8), 0);
        }
        // What is gone back and done again counts anew; a second way there is no longer.
        ProvedMachine y = begun("fun a()int{int i=0;while true{i=i+1;}}");
        y.step(100);
        due("ten", y.back(10), 10);
        due("can", y.now(8), 20);
        y.step(4);
        due("can", y.now(8), 24);
        y.step(7);
        due("can", y.now(8), 30);
        due("thirty", y.back(30), 30);
        due("steps", y.now(5), 100 - 10 + 4 + 7 - 30);
        ProvedMachine z = begun("fun a()int{int i=0;while true{i=i+1;}}");
        z.step(71);
        CHECK.same("as one that went there", seenOf(y), seenOf(z));
    }

    private static String seenOf(ProvedMachine x) {
        return Sight.of(x).replaceAll(" (now8|proof)=-?\\d+", "");
    }

    /** "BACK goes one STEP back: all is as ahead of it (.. a HALT by DONE, too)" */
    private static void backOverHalts() {
        ProvedMachine x = ended("fun f()int{return 3;}fun m()int{row r=new 2;print 1;return f();}");
        due("done", x.now(0), 1);
        due("one", x.back(1), 1);
        due("runs", x.now(0), 0);
        due("frames", x.now(2), 1);
        due("value", x.stack(0, false), 3);
        due("its type", x.stack(0, true), 0);
        due("no result", x.result(), NONE);
        due("variable", x.variable(0, 0), 1);
        due("done again", x.step(400), 1);
        due("result", x.result(), 3);
        String[] halts = {"1/0", "(new 1)[1]", "head none", "size new 10"};
        int[] by = {2, 3, 4, 5};
        for (int i = 0; i < halts.length; i++) {
            ProvedMachine y = begun("fun a()int{int x=1;return " + halts[i] + ";}");
            long steps = y.step(400);
            due("halted", y.now(0), by[i]);
            due("one", y.back(1), 1);
            due("runs", y.now(0), 0);
            due("one less was done", y.now(5), steps - 1);
            due("again", y.step(400), 1);
            due("halted again", y.now(0), by[i]);
            due("all", y.back(30), steps);
            due("runs", y.now(0), 0);
            due("at the start", y.now(1), 0);
        }
    }

    /** Each STEP of a run gone back one by one is as it was ahead of it. */
    private static void backOverAll() {
        String[] texts = {
            "fun f(int x,row r)int{r[0]=x;print r[0];return -x;}fun m()int{row r=new 1;print f(3,r)<1;return f(4,r);}",
            "fun a()list{list l=1:none;bool b=not(head l=1);if b or true{l=2:l;}else{}while b{}return tail l;}",
            "fun f(int n)int{int k=n*2;if n<1{return k;}return f(n-1)+k/1;}fun m()int{return f(2);}",
        };
        for (String text : texts) {
            int steps = (int) ended(text).now(5);
            for (int at = 0; at < steps; at++) {
                ProvedMachine x = begun(text);
                if (at > 0) {
                    x.step(at);
                }
                String ahead = Sight.of(x);
                x.step(1);
                due("back", x.back(1), 1);
                if (at < 30) {
                    CHECK.same("step " + at + " of " + text, Sight.of(x), ahead);
                } else {
                    CHECK.same("step " + at + " of " + text, seenOf(x), seenOf(at, text));
                }
            }
        }
    }

    private static String seenOf(int steps, String text) {
        ProvedMachine x = begun(text);
        x.step(steps);
        return seenOf(x);
    }

    /** "(THE HEAP, ..)": CLEARINGS are gone back, and their count. */
    private static void backOverClearings() {
        ProvedMachine x = begun("fun a()int{while true{row r=new 2;r[1]=7;list l=5:none;}}");
        // true, 23, 2, new, 21, r, 1, 7, 22, 5, none, :, 21, 24: two OBJECTS a turn, the ninth turn CLEARS.
        x.step(8 * 14 + 3);
        String ahead = seenOf(x);
        due("full", x.now(6), 16);
        x.step(1);
        due("cleared", x.now(7), 1);
        due("held and new", x.now(6), 3);
        due("zeros", x.object(1, 11), 0);
        due("back", x.back(1), 1);
        CHECK.same("as ahead of the clearing", seenOf(x), ahead);
        due("not cleared", x.now(7), 0);
        due("its number as it was", x.object(1, 11), 7);
        x.step(20);
        due("cleared once", x.now(7), 1);
        due("back", x.back(21), 21);
        due("not cleared", x.now(7), 0);
        // A CLEARING that found none free counts, till the STEP ahead of it is gone back.
        ProvedMachine y = ended("fun a()int{list l=none;while true{l=1:l;}}");
        due("halted", y.now(0), 6);
        due("cleared", y.now(7), 1);
        due("back", y.back(1), 1);
        due("as ahead", y.now(7), 0);
        due("runs", y.now(0), 0);
        due("again", y.step(400), 1);
        due("cleared again", y.now(7), 1);
    }

    /** "start() forgets all" */
    private static void startForgets() {
        ProvedMachine x = begun("fun a()int{int i=0;while true{i=i+1;list l=i:none;print i;}}");
        x.step(60);
        due("start", x.start(), x.all(1));
        due("nothing to go back", x.back(1), NONE);
        due("no proof", x.proof(0, 0), BEYOND);
        due("none can", x.now(8), 0);
        due("no step", x.now(5), 0);
        due("nothing printed", x.printed(0), BEYOND);
        x.step(2);
        due("two alone", x.back(30), 2);
        ProvedMachine h = ended("fun a()int{return 1/0;}");
        h.start();
        due("runs", h.now(0), 0);
        due("steps", h.step(400), 2);
        ProvedMachine d = ended("fun a()int{return 5;}");
        d.start();
        due("no result", d.result(), NONE);
    }

    // ---- what is asked

    /** "NONE: none is begun. BEYOND: another what." */
    private static void nowOfWhat() {
        ProvedMachine x = CHECK.with("fun a()int{}");
        for (int what : new int[] {-1, 0, 8, 9, LEAST, MOST}) {
            due("now " + what + " of none", x.now(what), NONE);
        }
        x.start();
        for (int what : new int[] {-1, 9, 10, LEAST, MOST}) {
            due("now " + what, x.now(what), BEYOND);
        }
        due("now 0", x.now(0), 0);
        due("now 8", x.now(8), 0);
        due("found", x.found(1), 5);
        due("found", x.found(6), 6);
    }

    /** "TOLD of VALUE i on the STACK (from the lowest, 0, on; type: its TYPE). NONE: none is begun. BEYOND." */
    private static void stackOutside() {
        ProvedMachine x = begun("fun a()list{return head(5:none):2:none;}");
        due("empty", x.stack(0, false), BEYOND);
        due("empty", x.stack(0, true), BEYOND);
        x.step(6);
        long[][] want = {{5, 0}, {2, 0}, {0, 3}};
        for (int i = 0; i < 3; i++) {
            due("value " + i, x.stack(i, false), want[i][0]);
            due("type " + i, x.stack(i, true), want[i][1]);
        }
        for (int i : new int[] {-1, 3, 29, 30, LEAST, MOST}) {
            due("value " + i, x.stack(i, false), BEYOND);
            due("type " + i, x.stack(i, true), BEYOND);
        }
        x.step(1);
        due("one less", x.stack(2, false), BEYOND);
        due("a pair", x.stack(1, false), 2);
        due("a list", x.stack(1, true), 3);
        // What a FRAME ahead has is lowest.
        ProvedMachine y = begun("fun f()int{return 7;}fun m()int{return 6+f();}");
        y.step(3);
        due("ahead", y.stack(0, false), 6);
        due("its own", y.stack(1, false), 7);
    }

    /** "BEYOND: no such FRAME, or variable." */
    private static void variablesOutside() {
        ProvedMachine x = begun("fun f(int a,int b,int c,int d,int e,int f)int{print f;}fun g()int{return f(1,2,3,4,5,6);}"
            + "fun m()int{bool b=true;print g();}");
        x.step(2 + 1 + 7);
        due("three frames", x.now(2), 3);
        due("first", x.variable(0, 0), 1);
        due("one alone", x.variable(0, 1), BEYOND);
        due("no variable", x.variable(1, 0), BEYOND);
        for (int v = 0; v < 6; v++) {
            due("param " + v, x.variable(2, v), v + 1);
        }
        for (int v : new int[] {-1, 6, 7, LEAST, MOST}) {
            due("variable " + v, x.variable(2, v), BEYOND);
        }
        for (int f : new int[] {-1, 3, 7, 8, LEAST, MOST}) {
            due("frame " + f, x.variable(f, 0), BEYOND);
        }
        x.back(1);
        due("no third frame", x.variable(2, 0), BEYOND);
    }

    /** "BEYOND: no such OBJECT, or it has no such what (of a free one but 0)." */
    private static void objectsOutside() {
        ProvedMachine x = begun("fun a()int{row a=new 9;row b=new 0;row c=new 3;list d=-4:none;d=5:d;c[2]=-6;print 1;}");
        x.step(9 + 5 + 4 + 5);
        boolean[][] has = new boolean[17][20];
        long[] sizes = {0, 9, 0, 3};
        for (int o = 1; o <= 16; o++) {
            has[o][0] = true;
            has[o][1] = o <= 5;
            has[o][2] = o == 4 || o == 5;
            for (int i = 0; o <= 3 && i < sizes[o]; i++) {
                has[o][10 + i] = true;
            }
        }
        for (int o = 1; o <= 16; o++) {
            for (int what = 0; what < 20; what++) {
                due("object " + o + " has " + what, x.object(o, what) == BEYOND ? 0 : 1, has[o][what] ? 1 : 0);
            }
        }
        long[][] want = {{1, 0, 1}, {1, 1, 9}, {1, 18, 0}, {2, 0, 1}, {2, 1, 0}, {3, 1, 3}, {3, 12, -6}, {4, 0, 2},
            {4, 1, -4}, {4, 2, 0}, {5, 1, 5}, {5, 2, 4}, {6, 0, 0}, {16, 0, 0}};
        for (long[] w : want) {
            due("object " + w[0] + " " + w[1], x.object((int) w[0], (int) w[1]), w[2]);
        }
        for (int odd : new int[] {-1, 17, 18, LEAST, MOST}) {
            due("object " + odd, x.object(odd, 0), BEYOND);
        }
        due("object 0", x.object(0, 0), BEYOND);
        for (int odd : new int[] {-1, 20, 100, LEAST, LEAST + 10, MOST, MOST - 10}) {
            due("what " + odd, x.object(1, odd), BEYOND);
            due("what " + odd, x.object(4, odd), BEYOND);
            due("what " + odd, x.object(16, odd), BEYOND);
        }
    }

    /** "BEYOND: there is none such." */
    private static void printedOutside() {
        ProvedMachine x = begun("fun a()int{print false;print -7;print true;}");
        due("none yet", x.printed(0), BEYOND);
        x.step(2);
        due("first", x.printed(0), 0);
        due("no second yet", x.printed(1), BEYOND);
        x.step(400);
        due("second", x.printed(1), -7);
        due("third", x.printed(2), 1);
        for (int i : new int[] {-1, 3, 19, 20, LEAST, MOST}) {
            due("printed " + i, x.printed(i), BEYOND);
        }
        x.back(3);
        due("third is gone", x.printed(2), BEYOND);
    }

    /** "THE RESULT, TOLD. NONE: none is begun, or it is not DONE." */
    private static void resultOfNone() {
        due("none has code", new ProvedMachine().result(), NONE);
        ProvedMachine x = CHECK.with("fun a()int{return -9;}");
        due("none is begun", x.result(), NONE);
        x.start();
        due("not done", x.result(), NONE);
        x.step(2);
        due("not done", x.result(), NONE);
        x.step(1);
        due("done", x.result(), -9);
        due("told of a bool", ended("fun a()bool{return true;}").result(), 1);
        due("told of a row", ended("fun a()row{row r=new 1;return new 1;}").result(), 2);
        due("told of a list", ended("fun a()list{return 1:2:none;}").result(), 2);
        due("told of no row", ended("fun a()row{}").result(), 0);
        due("told of none", ended("fun a()list{return none;}").result(), 0);
        Check.read(x, "fun a()int{}");
        due("none is begun any longer", x.result(), NONE);
    }

    /** "THE HEAP is CLEARED (no STEP; it counts; what was done can't be gone back behind it): how many .. got free." */
    private static void clearByHand() {
        ProvedMachine x = CHECK.with("fun a()int{row r=new 1;r=new 2;r=new 3;print 1;return 1/0;}");
        due("none is begun", x.clear(), NONE);
        x.start();
        due("an empty heap", x.clear(), 0);
        due("it counts", x.now(7), 1);
        x.step(9);
        due("two", x.clear(), 2);
        due("one is left", x.now(6), 1);
        due("it counts", x.now(7), 2);
        due("no step", x.now(5), 9);
        due("none can be gone back", x.now(8), 0);
        due("none", x.back(1), NONE);
        due("no proof", x.proof(0, 0), BEYOND);
        due("none more", x.clear(), 0);
        due("it counts, too", x.now(7), 3);
        x.step(1);
        due("behind it there is one", x.back(30), 1);
        due("its clearings stay", x.now(7), 3);
        due("what got free stays so", x.now(6), 1);
        x.step(400);
        due("halted", x.now(0), 2);
        due("clears when halted", x.clear(), 0);
        due("still halted", x.now(0), 2);
        due("still halted", x.step(1), HALTED);
        due("none can be gone back", x.back(1), NONE);
        ProvedMachine y = ended("fun a()int{row r=new 1;return size r;}");
        due("done", y.now(0), 1);
        due("no frame holds it", y.clear(), 1);
        due("result stays", y.result(), 1);
    }
}
