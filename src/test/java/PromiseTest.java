/** Each promise by its number, with answers that were worked out by hand from the document. */
public final class PromiseTest {
    private static final Check CHECK = new Check();
    private static final long BEYOND = Check.BEYOND;
    private static final long MISSING = Check.MISSING;
    private static final long SIZE = Check.SIZE;
    private static final long KIND = Check.KIND;
    private static final long FULL = Check.FULL;
    private static final long NONE = Check.NONE;
    private static final long HALTED = Check.HALTED;

    public static void main(String[] args) {
        newObject();
        feed();
        text();
        faultsOfKind1();
        blocksInBlocks();
        faultsByDepth();
        faultsOfKind2();
        faultsOfKind3();
        faultsOfKind4();
        code();
        codeOfStatements();
        as();
        shape();
        shapeOfMany();
        fun();
        start();
        step();
        arithmetic();
        halts();
        haltsByLimits();
        back();
        backOverClearing();
        now();
        stackAndVariables();
        objects();
        printedAndResult();
        clear();
        clearingKeepsWhatIsHeld();
        newRowsAreZeros();
        heapFull();
        proof();
        proves();
        provesChangesNothing();
        sheets();
        put();
        copy();
        found();
        all();
        CHECK.end();
    }

    private static void due(String what, long got, long want) {
        CHECK.due(what, got, want);
    }

    private static ProvedMachine with(String text) {
        return CHECK.with(text);
    }

    private static ProvedMachine begun(String text) {
        return CHECK.begun(text);
    }

    private static void faulty(String text, int kind, int place) {
        CHECK.faulty(text, kind, place);
    }

    private static void right(String text, int places) {
        CHECK.right(text, places);
    }

    private static void faultAt(int kind, String text) {
        CHECK.faultAt(kind, text);
    }

    private static void sheetOf(ProvedMachine x, int s, int... numbers) {
        CHECK.sheetOf(x, s, numbers);
    }

    // ---- 1

    private static void newObject() {
        ProvedMachine x = new ProvedMachine();
        for (int what = 0; what < 4; what++) {
            due("all of a new one " + what, x.all(what), 0);
        }
        due("fault kind of a new one", x.fault(0), 0);
        due("fault place of a new one", x.fault(1), -1);
        due("code of a new one", x.code(0, false), BEYOND);
        due("start of a new one", x.start(), NONE);
        for (int s = 0; s < 4; s++) {
            due("put of a new one", x.put(s, 0, 0), MISSING);
        }
        due("found", x.found(2), 4);
    }

    // ---- 2

    private static void feed() {
        ProvedMachine x = new ProvedMachine();
        due("feed 0", x.feed(0, 1), BEYOND);
        due("feed 9", x.feed(9, 1), BEYOND);
        due("feed -1", x.feed(-1, 1), BEYOND);
        due("feed 1", x.feed(1, 0x1234567890L), 1);
        for (int i = 0; i < 29; i++) {
            due("feed 8", x.feed(8, -1), 9 + 8 * i);
        }
        due("feed over the end", x.feed(8, 0), FULL);
        due("feed up to the end", x.feed(7, 0), 240);
        due("feed behind the end", x.feed(1, 0), FULL);
        due("beyond is asked first", x.feed(0, 0), BEYOND);
        due("bytes", x.all(0), 240);
        ProvedMachine y = new ProvedMachine();
        // The higher bytes that are not among the n lowest don't count.
        y.feed(3, 0x7f7f7f006e7566L);
        Check.feed(y, " a()int{}");
        due("text", y.text(), 2);
    }

    // ---- 3

    private static void text() {
        ProvedMachine x = new ProvedMachine();
        due("empty text", x.text(), -1);
        due("empty text's kind", x.fault(0), 1);
        due("empty text's place", x.fault(1), 0);
        due("text", Check.read(x, "fun a()int{return 7;}"), 4);
        due("tape is empty", x.all(0), 0);
        due("fault is none again", x.fault(0), 0);
        x.start();
        x.step(1);
        due("faulty text", Check.read(x, "fun a()int{return true;}"), -1);
        due("tape is empty behind a fault", x.all(0), 0);
        due("code stays", x.code(0, true), 7);
        due("code's length stays", x.all(1), 4);
        due("machine stays", x.now(5), 1);
        due("machine goes on", x.step(9), 1);
        due("result", x.result(), 7);
        due("good text", Check.read(x, "fun a()int{}"), 2);
        due("no machine", x.now(0), NONE);
        due("no machine", x.all(3), 0);
        due("-1 is no finding", x.found(1), 0);
        right("\n fun\na ( ) int { } \n", 2);
        right("fun a()int{}fun b()int{}fun c()int{}fun d()int{}fun e()int{}", 10);
    }

    // ---- 4

    private static void faultsOfKind1() {
        faultAt(1, "@x");
        faultAt(1, "@ab a()int{}");
        faultAt(1, "@Fun a()int{}");
        faultAt(1, "fun @fun()int{}");
        faultAt(1, "fun @ab()int{}");
        faultAt(1, "fun a @int{}");
        faultAt(1, "fun a@");
        faultAt(1, "fun a  @");
        faultAt(1, "fun a(@a)int{}");
        faultAt(1, "fun a(int x,@)int{}");
        faultAt(1, "fun a(int x @int y)int{}");
        faultAt(1, "fun a()@none{}");
        faultAt(1, "fun a()int@;");
        faultAt(1, "fun a()int{@");
        faultAt(1, "fun a()int{} @}");
        faultAt(1, "fun a()int{}@\t");
        faultAt(1, "fun a()int{@" + (char) 233 + "}");
        faultAt(1, "fun a()int{@" + (char) 0 + "}");
        faultAt(1, "fun a()int{@fun b()int{}");
        faultAt(1, "fun a()int{@;}");
        faultAt(1, "fun a()int{a@(1);}");
        faultAt(1, "fun a()int{int a@;}");
        faultAt(1, "fun a()int{int @int=1;}");
        faultAt(1, "fun a()int{return @;}");
        faultAt(1, "fun a()int{return 1@}");
        faultAt(1, "fun a()int{return 1 @2;}");
        faultAt(1, "fun a()int{return 1@a;}");
        faultAt(1, "fun a()int{return @123456;}");
        faultAt(1, "fun a()int{return @000000;}");
        right("fun a()int{return 99999;}", 4);
        right("fun a()int{return 00000;}", 4);
        faultAt(1, "fun a()int{return 1 < 2 @< 3;}");
        faultAt(1, "fun a()int{return 1 = 2 @= 3;}");
        faultAt(1, "fun a()int{return 1 + @+ 3;}");
        faultAt(1, "fun a()int{return 1 + @* 3;}");
        faultAt(1, "fun a()int{return (1@;}");
        faultAt(1, "fun a()int{return a(1,@);}");
        faultAt(1, "fun a()int{return a(@,1);}");
        faultAt(1, "fun a()int{return (@);}");
        faultAt(1, "fun a()int{return 1[@];}");
        faultAt(1, "fun a()int{return 1[1@;}");
        faultAt(1, "fun a()int{return 1:@;}");
        faultAt(1, "fun a()int{return not@;}");
        faultAt(1, "fun a()int{if true @print 1;}");
        faultAt(1, "fun a()int{if true{}else @if true{}}");
        faultAt(1, "fun a()int{@else{}}");
        faultAt(1, "fun a()int{while true{}@else{}}");
        faultAt(1, "fun a()int{while @{}}");
        faultAt(1, "fun a()int{x[1]@;}");
        faultAt(1, "fun a()int{x@+1;}");
        faultAt(1, "fun a()int{print 1@>2;}");
        faultAt(1, "fun a()int{return @retur;}");
        faultAt(1, "fun a()int{return @returned;}");
        faultAt(1, "fun a()int{}fun b()int{}fun c()int{}fun d()int{}fun e()int{}@fun f()int{}");
        faultAt(1, "fun a()int{}fun b()int{}fun c()int{}fun d()int{}fun e()int{}@x");
        // One of KIND 1 is told ahead of one of KIND 2 or 3 that lies ahead of it.
        faultAt(1, "fun a(int x,int x)int{x=true;y=1;@");
        ProvedMachine x = new ProvedMachine();
        due("fault 2", x.fault(2), BEYOND);
        due("fault -1", x.fault(-1), BEYOND);
    }

    private static void blocksInBlocks() {
        right("fun a()int{bool x=true;" + "if x{".repeat(36) + "}".repeat(36) + "}", 2 + 72 + 2);
        right("fun a()int{bool x=true;" + "while x{".repeat(23) + "}".repeat(23) + "}", 2 + 69 + 2);
        faulty("fun a()int{" + "if1{".repeat(57), 1, 239);
        faulty("fun a()int{" + "if1{".repeat(45) + "}".repeat(46), 3, 11);
        codeIs("fun a()int{bool x=true;" + "if x{".repeat(3) + "}".repeat(4), 1, 1, 21, 0, 3, 0, 23, 8, 3, 0, 23, 8,
            3, 0, 23, 8, 27, 0, 25, 0);
    }

    private static void faultsByDepth() {
        right("fun a()int{return (((1)));}", 4);
        faultAt(1, "fun a()int{return ((((@1))));}");
        right("fun a()int{return ------1;}", 10);
        faultAt(1, "fun a()int{return -------@1;}");
        faultAt(1, "fun a()int{return -------@-1;}");
        faultAt(1, "fun a()int{return -------@;}");
        right("fun a()list{return 1:1:1:1:1:1:none;}", 16);
        faultAt(1, "fun a()list{return 1:1:1:1:1:1:1:@none;}");
        right("fun a()int{return -(-(1));}", 6);
        faultAt(1, "fun a()int{return -(-(-@1));}");
        faultAt(1, "fun a()int{return -(-((@1)));}");
        // What stands side by side does not lie deeper.
        right("fun a()int{return (((1)))+(((1)))*(((1)));}", 8);
        right("fun a(int x)int{return a(a(a(x)));}fun b()int{}", 9);
        faultAt(1, "fun a(int x)int{return a(a(a(a(@x))));}fun b()int{}");
        right("fun a()int{row r=new 1;return r[r[r[0]]];}", 13);
        faultAt(1, "fun a()int{row r=new 1;return r[r[r[r[@0]]]];}");
    }

    private static void faultsOfKind2() {
        faultAt(2, "fun a()int{int x=1;int @x=2;}");
        faultAt(2, "fun a(int x,bool @x)int{}fun b()int{}");
        faultAt(2, "fun a(int x)int{int @x=1;}fun b()int{}");
        faultAt(2, "fun a()int{if true{int x=1;}else{int @x=1;}}");
        right("fun a()int{int x=1;}fun b()int{bool x=true;}", 8);
        faultAt(2, "fun a(int a,int b,int c,int d,int e,int f,int @g)int{}fun b()int{}");
        right("fun a(int a,int b,int c,int d,int e,int f)int{}fun b()int{}", 4);
        faultAt(2, "fun a(int a,int b,int c,int d,int e)int{int f=1;int @g=1;}fun b()int{}");
        faultAt(2, "fun a()int{}fun @a()int{}");
        faultAt(2, "fun a()int{@x=1;}");
        faultAt(2, "fun a()int{@x=x;}");
        faultAt(2, "fun a()int{int x=@x;}");
        faultAt(2, "fun a()int{int x=1+(@x);}");
        faultAt(2, "fun a()int{@x[1]=1;}");
        faultAt(2, "fun a()int{print @x;int x=1;}");
        right("fun a()int{if false{int x=1;}return x;}", 8);
        faultAt(2, "fun a()int{int x=1;}fun b()int{return @x;}");
        faultAt(2, "fun a()int{return @b();}fun b()int{}");
        right("fun a()int{return a();}fun b()int{return a();}", 8);
        faultAt(2, "fun a()int{return @a(1);}");
        faultAt(2, "fun a(int x)int{return @a();}fun b()int{}");
        faultAt(2, "fun a(int x)int{return @a(x,x);}fun b()int{}");
        // A CALL is told by its NAME, which stands ahead of what is wrong within.
        faultAt(2, "fun a()int{return @c(y);}");
        faultAt(2, "fun @a(int x)int{}");
        faultAt(2, "fun a(int x)int{}fun @b(int x,int x)int{return y;}");
        faultAt(2, "fun a()int{x=1;}fun b(int x)int{}".replace("{x", "{@x"));
        // A FUN and a variable may have one NAME.
        right("fun a()int{int a=1;return a+a();}", 8);
        // One of KIND 2 is told ahead of one of KIND 3 that lies ahead of it.
        faultAt(2, "fun a()int{int x=true;@y=1;}");
    }

    private static void faultsOfKind3() {
        String[] wrong = {
            "fun a()int{print 1 @or true;}", "fun a()int{print true @and 1;}", "fun a()int{print @not 1;}",
            "fun a()int{print true@<false;}", "fun a()int{print 1@<true;}", "fun a()int{print 1@+true;}",
            "fun a()int{print none@-1;}", "fun a()int{print @-true;}", "fun a()int{print 1@*none;}",
            "fun a()int{print true@/1;}", "fun a()int{print 1@=true;}", "fun a()int{print none@=none;}",
            "fun a()int{print new 1@=new 1;}", "fun a()int{print @size none;}", "fun a()int{print @size 1;}",
            "fun a()int{print @head new 1;}", "fun a()int{print @tail 1;}", "fun a()int{print @new true;}",
            "fun a()int{print 1@[1];}", "fun a()int{print none@[1];}", "fun a()int{print (new 1)@[true];}",
            "fun a()list{return true@:none;}", "fun a()list{return 1@:1;}", "fun a()list{return none@:none;}",
            "fun a()int{@int x=true;}", "fun a()int{@bool x=1;}", "fun a()int{@row x=none;}",
            "fun a()int{@list x=new 1;}", "fun a()int{int x=1;@x=true;}", "fun a()int{int x=1;@x[1]=1;}",
            "fun a()int{row x=new 1;@x[true]=1;}", "fun a()int{row x=new 1;@x[1]=true;}",
            "fun a()int{@if 1{}}", "fun a()int{@while none{}}", "fun a()int{@return true;}",
            "fun a()row{@return none;}", "fun a()int{@print none;}", "fun a()int{ @print new 1;}",
            "fun a(int x,bool y)int{}fun b()int{return @a(1,1);}",
            "fun a(int x,bool y)int{}fun b()int{return @a(true,true);}",
        };
        for (String text : wrong) {
            faultAt(3, text);
        }
        right("fun a()int{print true=false;print 1=2;}", 10);
        // What is within is asked ahead of it, left ahead of right.
        faultAt(3, "fun a()int{return (1@+true)*none;}");
        faultAt(3, "fun a()int{return true+(1@+true);}");
        faultAt(3, "fun a()list{return true:2@:3;}");
        faultAt(3, "fun a(int x)int{return a(not a(@not 1));}fun b()int{}");
        faultAt(3, "fun a()int{int x=1;x[true]=1@+true;}");
        faultAt(3, "fun a()int{return (new 1)[@-none];}");
        // if and while ask behind their E, ahead of their BLOCK.
        faultAt(3, "fun a()int{@if 1{print none;}}");
        faultAt(3, "fun a()int{@while 1{print none;}}");
        faultAt(3, "fun a()int{if 1@+true{print none;}}");
        // A FUN ahead is asked ahead, though the fault lies in one FUN alone.
        faultAt(3, "fun a()int{@print none;}fun b()int{print none;}");
    }

    private static void faultsOfKind4() {
        // 1 + 2n places for n + 1 numbers, and three for return and the end.
        StringBuilder most = new StringBuilder("fun a()int{return 1");
        for (int i = 0; i < 98; i++) {
            most.append("+1");
        }
        right(most + ";}", 200);
        right(most + "; }", 200);
        faulty(most + "+1;}", 4, most.length() + 4);
        faulty(most + "+1; }\n", 4, most.length() + 6);
        faulty(most + "+x;}", 2, most.length() + 1);
        ProvedMachine x = with("fun a()int{}");
        Check.read(x, most + "+1;}");
        due("code stays", x.all(1), 2);
        due("one more place by one more OP", Check.read(x, most.toString().replace("n 1", "n -1") + ";}"), -1);
        due("kind", x.fault(0), 4);
    }

    // ---- 5

    /** The CODE of the last FUN as pairs of OP and ARGUMENT. */
    private static void codeIs(String text, int... pairs) {
        ProvedMachine x = with(text);
        due("length of " + text, x.all(1), pairs.length / 2);
        for (int i = 0; i < pairs.length / 2; i++) {
            due("op " + i + " of " + text, x.code(i, false), pairs[2 * i]);
            due("argument " + i + " of " + text, x.code(i, true), pairs[2 * i + 1]);
        }
    }

    private static void code() {
        codeIs("fun a()int{print 12-3*4/5+6;}", 0, 12, 0, 3, 0, 4, 19, 0, 0, 5, 20, 0, 18, 0, 0, 6, 17, 0, 26, 0,
            27, 0, 25, 0);
        codeIs("fun a()bool{return true or false and not true=false;}", 1, 1, 1, 0, 1, 1, 6, 0, 1, 0, 16, 0, 14, 0,
            13, 0, 25, 0, 27, 1, 25, 0);
        codeIs("fun a()list{return 1:2:tail none;}", 0, 1, 0, 2, 2, 0, 9, 0, 12, 0, 12, 0, 25, 0, 27, 3, 25, 0);
        codeIs("fun a()row{return new -size new 4;}", 0, 4, 10, 0, 7, 0, 5, 0, 10, 0, 25, 0, 27, 2, 25, 0);
        codeIs("fun a()int{return (new 1)[0]-head none;}", 0, 1, 10, 0, 0, 0, 11, 0, 2, 0, 8, 0, 18, 0, 25, 0,
            27, 0, 25, 0);
        codeIs("fun a()int{print 1+2<3 or false;}", 0, 1, 0, 2, 17, 0, 0, 3, 15, 0, 1, 0, 13, 0, 26, 0, 27, 0, 25, 0);
        codeIs("fun a(int x,int y)int{return y;}fun b()int{return a(1,a(2,3));}", 3, 1, 25, 0, 27, 0, 25, 0,
            0, 1, 0, 2, 0, 3, 4, 0, 4, 0, 25, 0, 27, 0, 25, 0);
        ProvedMachine x = with("fun a()int{}");
        due("code -1", x.code(-1, false), BEYOND);
        due("code 2", x.code(2, true), BEYOND);
        due("code 1", x.code(1, false), 25);
    }

    private static void codeOfStatements() {
        codeIs("fun a()int{int x=1;bool y=true;x=2;row z=new 0;z[x]=3;}", 0, 1, 21, 0, 1, 1, 21, 1, 0, 2, 21, 0,
            0, 0, 10, 0, 21, 2, 3, 2, 3, 0, 0, 3, 22, 0, 27, 0, 25, 0);
        codeIs("fun a()int{if true{print 1;}}", 1, 1, 23, 4, 0, 1, 26, 0, 27, 0, 25, 0);
        codeIs("fun a()int{if true{print 1;}else{print 2;}}", 1, 1, 23, 5, 0, 1, 26, 0, 24, 7, 0, 2, 26, 0, 27, 0,
            25, 0);
        codeIs("fun a()int{if true{}else{}}", 1, 1, 23, 3, 24, 3, 27, 0, 25, 0);
        codeIs("fun a()int{while true{while false{}print 1;}}", 1, 1, 23, 8, 1, 0, 23, 5, 24, 2, 0, 1, 26, 0, 24, 0,
            27, 0, 25, 0);
        codeIs("fun a()int{if true{if false{}else{print 1;}}else{if true{}}}", 1, 1, 23, 8, 1, 0, 23, 5, 24, 7,
            0, 1, 26, 0, 24, 10, 1, 1, 23, 10, 27, 0, 25, 0);
    }

    // ---- 6

    private static void as() {
        ProvedMachine x = with("fun a(int x)int{if x<1{}return -a(x);}fun b()int{while true{}}");
        // 0: 3 0, 1: 0 1, 2: 15, 3: 23 4, 4: 3 0, 5: 4 0, 6: 5, 7: 25, 8: 27, 9: 25, 10: 1, 11: 23, 12: 24
        long[][] asked = {{0, 0, 3}, {0, 1, KIND}, {0, 2, KIND}, {0, 3, KIND}, {2, 2, 15}, {2, 3, KIND}, {3, 1, 23},
            {3, 2, KIND}, {5, 0, 4}, {5, 1, KIND}, {5, 2, 4}, {5, 3, 4}, {6, 2, 5}, {6, 3, KIND}, {7, 2, KIND},
            {8, 1, KIND}, {8, 0, 27}, {11, 1, 23}, {12, 1, 24}, {12, 2, KIND}, {0, 4, BEYOND}, {0, -1, BEYOND},
            {15, 0, BEYOND}, {-1, 0, BEYOND}, {14, 0, 25}};
        for (long[] a : asked) {
            due("as " + a[0] + " " + a[1], x.as((int) a[0], (int) a[1]), a[2]);
        }
        due("as 20", with("fun a()int{return 1/1;}").as(2, 2), 20);
        due("as 22", with("fun a()int{row r=new 1;r[0]=0;}").as(6, 2), KIND);
        due("as of no code", new ProvedMachine().as(0, 0), BEYOND);
    }

    // ---- 7

    private static void shapesAre(String text, long... shapes) {
        ProvedMachine x = with(text);
        for (int i = 0; i < shapes.length; i++) {
            due("shape " + i + " of " + text, x.shape(i), shapes[i]);
        }
        due("shape behind the end", x.shape(shapes.length), BEYOND);
        due("shape -1", x.shape(-1), BEYOND);
    }

    private static void shape() {
        shapesAre("fun a()int{return 1;}", 0, 1, 3125, 3125);
        shapesAre("fun a()int{return 1+2*3;}", 0, 1, 6, 31, 6, 1, 3125, 3125);
        shapesAre("fun a()int{row r=new 1;bool b=r[0]<1;r[1]=2;}", 0, 1, 3, 0, 3, 16, 1, 6, 2, 0, 3, 16, 81, 0, 1);
        shapesAre("fun a()list{return 1:none;}", 0, 1, 9, 4, 3125, 3125);
        // A FUN that is not called has its SHAPES, too; nothing of the FRAME ahead is in them.
        shapesAre("fun a(bool x)bool{return not x;}fun b()int{print 1=2;}", 0, 2, 2, 3125, 3125, 0, 1, 6, 2, 0, 1);
        shapesAre("fun a(int x,list y)bool{}fun b()int{print a(1,none)=true;}", 0, 2, 0, 1, 9, 2, 12, 2, 0, 1);
        shapesAre("fun a()int{if true{return 1;}else{return 2;}print 3;}", 0, 2, 0, 1, 3125, 0, 1, 3125, 3125, 3125,
            3125);
        shapesAre("fun a()int{if true{return 1;}print 3;}", 0, 2, 0, 1, 0, 1, 0, 1);
        shapesAre("fun a()int{while true{}}", 0, 2, 0, 0, 1);
        shapesAre("fun a()int{while true{return 1;}}", 0, 2, 0, 1, 3125, 0, 1);
        shapesAre("fun a()int{return 1;while true{print 1;}}", 0, 1, 3125, 3125, 3125, 3125, 3125, 3125, 3125);
        due("shape of no code", new ProvedMachine().shape(0), BEYOND);
    }

    private static void shapeOfMany() {
        String deep = "true or true and 1<1+1*";
        String call = "a(1,1,1,1,1,";
        ProvedMachine x = with("fun a(int a,int b,int c,int d,int e,bool f)int{}fun b()int{return 1+1*"
            + call + deep + call + deep + call + deep + "1)));}");
        String digits = "11" + "11111" + "22111" + "11111" + "22111" + "11111" + "22111" + "1";
        long shape = 0;
        for (int i = 0; i < digits.length(); i++) {
            due("shape of many at " + i, x.shape(2 + i), shape);
            shape = shape * 5 + digits.charAt(i) - '0';
        }
        due("shape of all", x.shape(2 + digits.length()), shape);
        due("shape of 27", x.shape(2 + 27), 1862668037416894531L);
        due("shape of 28", x.shape(2 + 28), -9133403886625078959L);
        due("shape of 33", x.shape(2 + 33), -4774063674695395517L);
    }

    // ---- 8

    private static void fun() {
        ProvedMachine x = with("fun a(int x,row y)bool{list z=none;}fun b()list{}fun c()row{int q=1;}");
        long[][] want = {{0, 2, 3, 1}, {4, 0, 0, 3}, {6, 0, 1, 2}};
        for (int f = 0; f < 3; f++) {
            for (int what = 0; what < 4; what++) {
                due("fun " + f + " " + what, x.fun(f, what), want[f][what]);
            }
        }
        due("fun 3", x.fun(3, 0), BEYOND);
        due("fun -1", x.fun(-1, 0), BEYOND);
        due("fun's 4", x.fun(0, 4), BEYOND);
        due("fun's -1", x.fun(0, -1), BEYOND);
        due("fun of no code", new ProvedMachine().fun(0, 0), BEYOND);
    }

    // ---- 9

    private static void start() {
        ProvedMachine x = begun("fun a()int{int x=1;print x;x=size new 2;}");
        x.step(7);
        due("start again", x.start(), 10);
        long[] fresh = {0, 0, 1, 0, 0, 0, 0, 0, 0};
        for (int what = 0; what < 9; what++) {
            due("now " + what + " at the start", x.now(what), fresh[what]);
        }
        due("variable at the start", x.variable(0, 0), 0);
        due("object at the start", x.object(1, 0), 0);
        due("nothing to go back", x.back(1), NONE);
        // The last FUN is the first FRAME.
        due("place of the last fun", begun("fun a()int{}fun b()int{print 1;}").now(1), 2);
    }

    // ---- 10

    private static void step() {
        ProvedMachine x = with("fun a()int{while true{}}");
        due("step of none", x.step(1), NONE);
        due("step 0 of none", x.step(0), BEYOND);
        x.start();
        due("step 401", x.step(401), BEYOND);
        due("step -1", x.step(-1), BEYOND);
        due("step 400", x.step(400), 400);
        due("now 1", x.now(1), 1);
        due("steps", x.now(5), 400);
        ProvedMachine y = begun("fun a()int{return 1/0;}");
        due("steps till it halts", y.step(5), 2);
        due("by 0", y.now(0), 2);
        due("place stays", y.now(1), 2);
        due("stack stays", y.now(3), 2);
        due("halted", y.step(5), HALTED);
        due("beyond ahead of halted", y.step(0), BEYOND);
        due("steps count", y.now(5), 2);
        ProvedMachine z = begun("fun a()int{return head none;}");
        z.step(1);
        due("a step that halts at once", z.step(1), 0);
        due("halted then", z.step(1), HALTED);
    }

    private static void evaluates(String e, long want) {
        ProvedMachine x = begun("fun a()int{return " + e + ";}");
        x.step(400);
        due(e + " is done", x.now(0), 1);
        due(e, x.result(), want);
    }

    private static void truth(String e, long want) {
        ProvedMachine x = begun("fun a()bool{return " + e + ";}");
        x.step(400);
        due(e, x.result(), want);
    }

    private static void arithmetic() {
        evaluates("7/2", 3);
        evaluates("-7/2", -3);
        evaluates("7/-2", -3);
        evaluates("-(7/2)", -3);
        evaluates("-(65536*32768)/-1", -2147483648L);
        evaluates("65536*32768", -2147483648L);
        evaluates("-(65536*32768)", -2147483648L);
        evaluates("65536*65536", 0);
        evaluates("65536*32767+65535+1", -2147483648L);
        evaluates("65536*32768-1", 2147483647L);
        evaluates("10-3-2", 5);
        evaluates("100/10/5", 2);
        evaluates("2+3*4", 14);
        evaluates("size new 9", 9);
        evaluates("size new 0", 0);
        evaluates("(new 3)[2]", 0);
        evaluates("head tail (1:2:none)", 2);
        evaluates("- -5", 5);
        truth("1<2", 1);
        truth("2<2", 0);
        truth("-1<0", 1);
        truth("3=3", 1);
        truth("3=4", 0);
        truth("true=true", 1);
        truth("false=true", 0);
        truth("true or false", 1);
        truth("false or false", 0);
        truth("true and false", 0);
        truth("true and true", 1);
        truth("not true", 0);
        truth("not false", 1);
        // Both sides are always done.
        due("or does both", begun("fun a()bool{return true or 1/0=1;}").step(9), 3);
        ProvedMachine x = begun("fun s(int a,int b)int{return a-b;}fun m()int{return s(9,2);}");
        x.step(400);
        due("the last param is the highest", x.result(), 7);
        ProvedMachine y = begun("fun a()int{int x=0;while x<3{x=x+1;}if x=3{print 1;}else{print 2;}return x;}");
        y.step(400);
        due("while", y.result(), 3);
        due("if", y.printed(0), 1);
        due("else is left out", y.now(4), 1);
        ProvedMachine z = begun("fun a()row{}");
        z.step(400);
        due("first value", z.result(), 0);
        due("steps of none", z.now(5), 2);
    }

    private static void haltsBy(String text, long steps, long by) {
        ProvedMachine x = begun(text);
        due("steps of " + text, x.step(400), steps);
        due("halt of " + text, x.now(0), by);
        due("steps done of " + text, x.now(5), steps);
        due("no result of " + text, x.result(), by == 1 ? 0 : NONE);
        due("halted " + text, x.step(1), HALTED);
        due("one back of " + text, x.back(1), 1);
        due("runs " + text, x.now(0), 0);
        due("again " + text, x.step(2), 1);
        due("halts again " + text, x.now(0), by);
    }

    private static void halts() {
        haltsBy("fun a()int{}", 2, 1);
        haltsBy("fun a()int{return 1/(1-1);}", 4, 2);
        haltsBy("fun a()int{return (new 2)[2];}", 3, 3);
        haltsBy("fun a()int{return (new 2)[-1];}", 4, 3);
        haltsBy("fun a()int{return (new 0)[0];}", 3, 3);
        haltsBy("fun a()int{row r=new 1;r[1]=1;}", 6, 3);
        haltsBy("fun a()int{if false{row r=new 1;}return size r;}", 3, 4);
        haltsBy("fun a()int{if false{row r=new 1;}return r[99];}", 4, 4);
        haltsBy("fun a()int{if false{row r=new 1;}r[99]=1;}", 5, 4);
        haltsBy("fun a()int{return head none;}", 1, 4);
        haltsBy("fun a()list{return tail tail (1:none);}", 4, 4);
        haltsBy("fun a()row{return new 10;}", 1, 5);
        haltsBy("fun a()row{return new -1;}", 2, 5);
    }

    private static void haltsByLimits() {
        // A CALL of six in each FRAME leaves five on the STACK.
        ProvedMachine x = begun("fun a(int a,int b,int c,int d,int e,int f)int{return a(1,2,3,4,5,a(1,2,3,4,5,6));}"
            + "fun m()int{return a(1,2,3,4,5,6);}");
        due("steps to a full stack", x.step(400), 7 + 4 * 12 + 10);
        due("halted by depth", x.now(0), 7);
        due("full stack", x.now(3), 30);
        due("frames", x.now(2), 6);
        due("back of a full stack", x.back(30), 30);
        // Nine FRAMES: the first and eight CALLS.
        ProvedMachine y = begun("fun f()int{return f();}fun m()int{return f();}");
        due("calls", y.step(400), 7);
        due("ninth frame", y.now(0), 7);
        due("eight frames", y.now(2), 8);
        ProvedMachine z = begun("fun a()int{int x=0;while true{x=x+1;print x;}}");
        z.step(400);
        due("halted by printing", z.now(0), 8);
        due("printed", z.now(4), 20);
        due("last printed", z.printed(19), 20);
        due("no more printed", z.printed(20), BEYOND);
        due("value is still there", z.stack(0, false), 21);
    }

    // ---- 11

    private static void back() {
        ProvedMachine x = with("fun a()int{int x=5;print x;row r=new 2;r[1]=x;x=x+1;return x;}");
        due("back of none", x.back(1), NONE);
        due("beyond ahead of none", x.back(0), BEYOND);
        x.start();
        due("back 31", x.back(31), BEYOND);
        due("back -1", x.back(-1), BEYOND);
        due("no step", x.back(1), NONE);
        due("all steps", x.step(400), 17);
        due("done", x.now(0), 1);
        due("frames when done", x.now(2), 0);
        due("back by one", x.back(1), 1);
        due("not done", x.result(), NONE);
        due("frame again", x.now(2), 1);
        due("value again", x.stack(0, false), 6);
        due("variable", x.variable(0, 0), 6);
        due("back by three", x.back(3), 3);
        due("variable as ahead", x.variable(0, 0), 5);
        due("row", x.object(1, 11), 5);
        due("back by four", x.back(4), 4);
        due("three on the stack", x.now(3), 2);
        due("row as ahead", x.object(1, 11), 0);
        due("back by four", x.back(4), 4);
        due("no object", x.now(6), 0);
        due("printed yet", x.now(4), 1);
        due("back by more than there are", x.back(30), 5);
        due("nothing printed", x.now(4), 0);
        due("steps", x.now(5), 0);
        due("all again", x.step(400), 17);
        due("result again", x.result(), 6);
        ProvedMachine y = begun("fun a()int{int x=0;while true{x=x+1;}}");
        y.step(100);
        due("back by thirty", y.back(30), 30);
        due("no more", y.back(1), NONE);
        due("steps", y.now(5), 70);
        due("can go back", y.now(8), 0);
        y.step(3);
        due("can go back", y.now(8), 3);
        ProvedMachine z = begun("fun f(int x)int{int y=x;return y+1;}fun m()int{return f(1)+f(2);}");
        due("steps over calls", z.step(9), 9);
        due("in the first frame", z.now(2), 1);
        z.step(2);
        due("second call", z.variable(1, 0), 2);
        due("its own variable at first", z.variable(1, 1), 0);
        z.back(5);
        due("in the first call", z.now(2), 2);
        due("its param", z.variable(1, 0), 1);
        due("its variable", z.variable(1, 1), 1);
    }

    private static void backOverClearing() {
        ProvedMachine x = begun("fun a()list{list x=none;while true{x=1:none;}}");
        // 2 steps, then 7 a turn: true, 23, 1, none, :, 21, 24; the 17th PAIR clears.
        x.step(2 + 16 * 7 + 4);
        due("full", x.now(6), 16);
        due("not cleared", x.now(7), 0);
        x.step(1);
        due("cleared", x.now(7), 1);
        due("held and new", x.now(6), 2);
        due("the latest is the least free", x.stack(0, false), 1);
        due("held by the variable", x.variable(0, 0), 16);
        x.back(1);
        due("full again", x.now(6), 16);
        due("not cleared again", x.now(7), 0);
        x.step(8);
        due("cleared once", x.now(7), 1);
        due("second free object", x.now(6), 3);
        due("objects", x.object(3, 0), 0);
    }

    // ---- 12

    private static void now() {
        ProvedMachine x = with("fun f(int x)int{print x;return x;}fun m()int{return 1+f(size new 3);}");
        due("now of none", x.now(0), NONE);
        due("none ahead of beyond", x.now(9), NONE);
        x.start();
        due("now 9", x.now(9), BEYOND);
        due("now -1", x.now(-1), BEYOND);
        x.step(6);
        // 1, 3, new, size, CALL, x: at the print.
        long[] want = {0, 1, 2, 2, 0, 6, 1, 0, 6};
        for (int what = 0; what < 9; what++) {
            due("now " + what, x.now(what), want[what]);
        }
        x.step(400);
        long[] end = {1, 0, 0, 0, 1, 11, 1, 0, 11};
        for (int what = 0; what < 9; what++) {
            due("now " + what + " at the end", x.now(what), end[what]);
        }
        due("result", x.result(), 4);
    }

    // ---- 13, 14

    private static void stackAndVariables() {
        String f = "fun f(int a,bool b,row c,list d)int{int e=1;return 2+a;}";
        ProvedMachine x = with(f + "fun m()int{row r=new 1;return 5-f(-4,true,r,9:none);}");
        due("stack of none", x.stack(0, false), NONE);
        due("none ahead of beyond", x.stack(-1, false), NONE);
        due("variable of none", x.variable(-1, 0), NONE);
        x.start();
        due("empty stack", x.stack(0, false), BEYOND);
        x.step(3 + 8);
        long[][] want = {{5, 0}, {-4, 0}, {1, 1}, {1, 2}, {2, 3}};
        due("values", x.now(3), 5);
        for (int i = 0; i < 5; i++) {
            due("stack " + i, x.stack(i, false), want[i][0]);
            due("stack type " + i, x.stack(i, true), want[i][1]);
        }
        due("stack 5", x.stack(5, true), BEYOND);
        due("stack -1", x.stack(-1, true), BEYOND);
        due("variable 0 0", x.variable(0, 0), 1);
        due("variable 0 1", x.variable(0, 1), BEYOND);
        due("variable 1 0", x.variable(1, 0), BEYOND);
        x.step(1);
        long[] variables = {-4, 1, 1, 2, 0, BEYOND};
        for (int v = 0; v < 6; v++) {
            due("variable 1 " + v, x.variable(1, v), variables[v]);
        }
        due("variable -1 0", x.variable(-1, 0), BEYOND);
        due("variable 0 -1", x.variable(0, -1), BEYOND);
        due("variable 2 0", x.variable(2, 0), BEYOND);
        due("one on the stack", x.now(3), 1);
        x.step(400);
        due("variable of no frame", x.variable(0, 0), BEYOND);
        due("result", x.result(), 7);
    }

    // ---- 15

    private static void objects() {
        ProvedMachine x = with("fun a()list{row r=new 9;r[8]=7;row s=new 0;list l=-3:none;l=4:l;return l;}");
        due("object of none", x.object(0, 0), NONE);
        x.start();
        x.step(400);
        due("a row", x.object(1, 0), 1);
        due("its size", x.object(1, 1), 9);
        due("no list of a row", x.object(1, 2), BEYOND);
        due("its first", x.object(1, 10), 0);
        due("its last", x.object(1, 18), 7);
        due("none behind", x.object(1, 19), BEYOND);
        due("no 9", x.object(1, 9), BEYOND);
        due("no 3", x.object(1, 3), BEYOND);
        due("no -1", x.object(1, -1), BEYOND);
        due("least", x.object(1, Integer.MIN_VALUE), BEYOND);
        due("an empty row", x.object(2, 0), 1);
        due("its size", x.object(2, 1), 0);
        due("its first", x.object(2, 10), BEYOND);
        due("a pair", x.object(3, 0), 2);
        due("its int", x.object(3, 1), -3);
        due("its list", x.object(3, 2), 0);
        due("no number of a pair", x.object(3, 10), BEYOND);
        due("the other's int", x.object(4, 1), 4);
        due("the other's list", x.object(4, 2), 3);
        due("free", x.object(5, 0), 0);
        due("free", x.object(16, 0), 0);
        due("free has no 1", x.object(5, 1), BEYOND);
        due("free has no 10", x.object(5, 10), BEYOND);
        due("object 0", x.object(0, 0), BEYOND);
        due("object 17", x.object(17, 0), BEYOND);
        due("object -1", x.object(-1, 0), BEYOND);
        due("result", x.result(), 4);
    }

    // ---- 16, 17

    private static void printedAndResult() {
        ProvedMachine x = with("fun a()bool{print -5;print true;return 1<2;}");
        due("printed of none", x.printed(-1), NONE);
        due("result of none", x.result(), NONE);
        x.start();
        due("nothing is printed", x.printed(0), BEYOND);
        due("not done", x.result(), NONE);
        x.step(400);
        due("printed 0", x.printed(0), -5);
        due("printed 1", x.printed(1), 1);
        due("printed 2", x.printed(2), BEYOND);
        due("printed -1", x.printed(-1), BEYOND);
        due("result", x.result(), 1);
        x.back(1);
        due("result is gone", x.result(), NONE);
        ProvedMachine y = begun("fun a()int{return 1/0;}");
        y.step(9);
        due("halted but not done", y.result(), NONE);
    }

    // ---- 18

    private static void clear() {
        ProvedMachine x = with("fun a()row{row r=new 3;r=new 2;return r;}");
        due("clear of none", x.clear(), NONE);
        x.start();
        due("clear of an empty heap", x.clear(), 0);
        due("it counts", x.now(7), 1);
        x.step(6);
        due("two objects", x.now(6), 2);
        due("one gets free", x.clear(), 1);
        due("the first", x.object(1, 0), 0);
        due("the second is held", x.object(2, 1), 2);
        due("it counts", x.now(7), 2);
        due("no step", x.now(5), 6);
        due("nothing to go back", x.back(1), NONE);
        due("can go back", x.now(8), 0);
        due("no proof", x.proof(0, 0), BEYOND);
        x.step(400);
        due("back to the clearing alone", x.back(30), 2);
        x.step(400);
        due("result", x.result(), 2);
        // THE RESULT is held by nothing.
        due("clear when done", x.clear(), 1);
        due("still done", x.now(0), 1);
        due("result stays", x.result(), 2);
        due("can't go back", x.back(1), NONE);
    }

    private static void clearingKeepsWhatIsHeld() {
        ProvedMachine x = begun("fun f(list l)list{list k=9:l;k=none;return 7:l;}"
            + "fun m()int{list a=1:2:none;return head f(a);}");
        // 0 1, 0 2, none, :, :, store, a, CALL, 9, l, :, store, none, store, 7, l
        x.step(16);
        due("frames", x.now(2), 2);
        due("objects", x.now(6), 3);
        due("the one that nothing holds", x.clear(), 1);
        due("pair", x.object(1, 1), 2);
        due("pair behind it", x.object(2, 2), 1);
        due("free", x.object(3, 0), 0);
        x.step(1);
        due("least free", x.stack(0, false), 3);
        due("its list", x.object(3, 2), 2);
        // What a STEP takes is held while it CLEARS: the second : of the eighth turn finds all in use.
        ProvedMachine y = begun("fun a()list{row r=new 0;while true{list x=1:2:none;x=none;}}");
        y.step(3 + 7 * 11 + 6);
        due("full", y.now(6), 16);
        due("not cleared", y.now(7), 0);
        y.step(1);
        due("cleared", y.now(7), 1);
        due("held and new", y.now(6), 3);
        due("new", y.stack(0, false), 2);
        due("its list", y.object(2, 2), 16);
        due("that one's int", y.object(16, 1), 2);
        due("the row", y.object(1, 0), 1);
    }

    private static void newRowsAreZeros() {
        ProvedMachine x = begun("fun a()int{while true{row r=new 2;r[0]=7;r[1]=8;}}");
        // true, 23, 2, new, 21, r, 0, 7, 22, r, 1, 8, 22, 24 a turn.
        x.step(16 * 14);
        due("the first as it was", x.object(1, 10), 7);
        x.step(4);
        due("cleared", x.now(7), 1);
        due("the first again", x.stack(0, false), 1);
        due("its first number", x.object(1, 10), 0);
        due("its second number", x.object(1, 11), 0);
        x.back(1);
        due("the first as it was", x.object(1, 10), 7);
        due("its second as it was", x.object(1, 11), 8);
        // A row in the place of a PAIR, and a PAIR in that of a row.
        ProvedMachine y = begun("fun a()int{while true{list l=5:6:none;l=none;row r=new 1;r[0]=9;}}");
        y.step(400);
        for (int o = 1; o <= 16; o++) {
            boolean row = y.object(o, 0) == 1;
            due("what it has " + o, row ? y.object(o, 2) : y.object(o, 10), BEYOND);
        }
    }

    private static void heapFull() {
        ProvedMachine x = begun("fun a()list{list x=none;while true{x=1:x;}}");
        due("steps", x.step(400), 2 + 16 * 7 + 4);
        due("heap is full", x.now(0), 6);
        due("it was cleared", x.now(7), 1);
        due("all held", x.now(6), 16);
        due("stack stays", x.now(3), 2);
        due("place stays", x.now(1), 6);
        due("clear by hand", x.clear(), 0);
        due("counts", x.now(7), 2);
        due("still halted", x.step(1), HALTED);
        due("can't go back", x.back(1), NONE);
        x.start();
        x.step(400);
        due("cleared", x.now(7), 1);
        due("back", x.back(1), 1);
        due("clearing is gone back, too", x.now(7), 0);
        due("runs", x.now(0), 0);
        due("again", x.step(9), 1);
        due("cleared again", x.now(7), 1);
        // new of a wrong size HALTS by 5, ahead of any CLEARING.
        ProvedMachine y = begun("fun a()row{int i=0;list x=none;while i<16{x=i:x;i=i+1;}return new 10;}");
        y.step(400);
        due("wrong size", y.now(0), 5);
        due("not cleared", y.now(7), 0);
        ProvedMachine z = begun("fun a()row{int i=0;list x=none;while i<16{x=i:x;i=i+1;}return new 9;}");
        z.step(400);
        due("no room for a row", z.now(0), 6);
        due("cleared", z.now(7), 1);
    }

    // ---- 19

    private static void proof() {
        ProvedMachine x = with("fun a()int{int x=-5;print x;return x;}");
        due("proof of none", x.proof(-1, 9), NONE);
        x.start();
        due("no proof", x.proof(0, 0), BEYOND);
        x.step(400);
        long[][] want = {{0, 0, 1, 5}, {1, 1, 1, -5}, {2, 1, 0, 0}, {3, 0, 1, -5}, {4, 1, 0, 0}, {5, 0, 1, -5},
            {6, 1, 0, 0}};
        for (int i = 0; i < 7; i++) {
            for (int k = 0; k < 4; k++) {
                due("proof " + i + " " + k, x.proof(6 - i, k), want[i][k]);
            }
        }
        due("proof 7", x.proof(7, 0), BEYOND);
        due("proof -1", x.proof(-1, 0), BEYOND);
        due("proof's 4", x.proof(0, 4), BEYOND);
        due("proof's -1", x.proof(0, -1), BEYOND);
        x.back(2);
        due("latest is another one", x.proof(0, 0), 4);
        due("proof 5", x.proof(5, 0), BEYOND);
        ProvedMachine y = begun("fun a()int{while true{}}");
        y.step(100);
        due("the oldest", y.proof(29, 0), 1);
        due("behind the oldest", y.proof(30, 0), BEYOND);
        ProvedMachine z = begun("fun f(row x)row{return x;}fun m()int{return size f(new 4);}");
        z.step(5);
        // 4, new, CALL, x, return: the row is OBJECT 1.
        due("of a call: behind", z.proof(2, 2), 0);
        due("of a call: ahead", z.proof(2, 1), 1);
        due("of a return: told", z.proof(0, 3), 1);
        due("of a return: behind", z.proof(0, 2), 1);
    }

    // ---- 20

    private static void proves() {
        ProvedMachine x = with("fun a()int{int x=-5;print x;return x;}");
        due("no such sheet", x.proves(4), BEYOND);
        due("no such sheet", x.proves(-1), BEYOND);
        due("missing", x.proves(0), MISSING);
        x.sheet(0, 16, 4);
        due("16 bits", x.proves(0), KIND);
        sheetOf(x, 0, 0, 0, 1, 5, 1, 1, 1, -5, 2, 1, 0, 0, 3, 0, 1, -5, 4, 1, 0, 0, 5, 0, 1, -5, 6, 1, 0, 0);
        due("none is begun", x.proves(0), NONE);
        x.start();
        due("all are proved", x.proves(0), -1);
        for (int i = 0; i < 28; i++) {
            int right = new int[] {0, 0, 1, 5, 1, 1, 1, -5, 2, 1, 0, 0, 3, 0, 1, -5, 4, 1, 0, 0, 5, 0, 1, -5, 6, 1, 0,
                0}[i];
            x.put(0, i, right ^ 1 << 31);
            due("wrong at " + i, x.proves(0), i);
            x.put(0, i, right);
        }
        sheetOf(x, 1, 0, 0, 1, 5, 9, 9);
        due("the second is not whole", x.proves(1), 6);
        x.put(1, 2, 7);
        due("the first is wrong", x.proves(1), 2);
        sheetOf(x, 2);
        due("none to prove", x.proves(2), -1);
        x.step(6);
        sheetOf(x, 3, 6, 1, 0, 0, 0, 0, 0, 0);
        due("behind DONE a step would halt", x.proves(3), 4);
        sheetOf(x, 3, 6, 1, 0, 0);
        due("the last one", x.proves(3), -1);
        x.step(1);
        due("halted", x.proves(3), HALTED);
        x.sheet(0, 8, 4);
        due("kind ahead of halted", x.proves(0), KIND);
        ProvedMachine y = begun("fun a()int{return 1/0;}");
        sheetOf(y, 0, 0, 0, 1, 1, 1, 1, 2, 0, 2, 2, 1, 0);
        due("the third would halt", y.proves(0), 8);
        due("it is not halted", y.now(0), 0);
        sheetOf(y, 0, 0, 0, 1, 1, 1, 1, 2, 0, 2, 2);
        due("not whole", y.proves(0), 10);
        due("the place of a wrong one is no finding", y.found(1), 0);
    }

    private static void provesChangesNothing() {
        ProvedMachine x = begun("fun a()list{list x=none;print 3;while true{x=1:none;}}");
        x.step(4 + 16 * 7 + 2);
        // 1, none, : (which CLEARS), 21, 24, true, 23
        sheetOf(x, 0, 6, 0, 1, 1, 7, 1, 2, 0, 8, 2, 1, 1, 9, 1, 0, 0, 10, 0, 0, 0, 4, 0, 1, 1, 5, 1, 0, 0, 6, 0, 1, 1);
        due("proved over a clearing", x.proves(0), -1);
        due("full as ahead", x.now(6), 16);
        due("not cleared", x.now(7), 0);
        due("steps", x.now(5), 4 + 16 * 7 + 2);
        due("can go back", x.now(8), 30);
        due("place", x.now(1), 6);
        due("the latest proof", x.proof(0, 0), 5);
        due("the oldest proof", x.proof(29, 0), x.proof(22, 0));
        due("back", x.back(30), 30);
        due("first there", x.now(6), 12);
        due("forth", x.step(30), 30);
        due("place again", x.now(1), 6);
        // A STEP that halts within leaves nothing, either.
        ProvedMachine y = begun("fun a()list{list x=none;while true{x=1:x;}}");
        y.step(2 + 16 * 7 + 4);
        sheetOf(y, 1, 6, 2, 1, 0);
        due("would halt", y.proves(1), 0);
        due("no clearing", y.now(7), 0);
        due("runs", y.now(0), 0);
        due("back", y.back(30), 30);
    }

    // ---- 21

    private static void sheets() {
        ProvedMachine x = new ProvedMachine();
        due("sheet", x.sheet(0, 8, 40), 40);
        due("sheet of none", x.sheet(3, 16, 0), 0);
        due("no number", x.put(3, 0, 1), BEYOND);
        due("sheet 4", x.sheet(4, 8, 1), BEYOND);
        due("sheet -1", x.sheet(-1, 8, 1), BEYOND);
        due("bits 7", x.sheet(0, 7, 1), BEYOND);
        due("bits 64", x.sheet(0, 64, -1), BEYOND);
        due("bits -8", x.sheet(0, -8, 1), BEYOND);
        due("below 0", x.sheet(0, 8, -1), SIZE);
        due("above 40", x.sheet(0, 8, 41), BEYOND);
        due("it stays", x.put(0, 39, 1), 0);
        due("below 0 of none", x.sheet(0, 0, -1), SIZE);
        due("above 40 of none", x.sheet(0, 0, 41), BEYOND);
        due("missing by bits 0", x.sheet(0, 0, 0), 0);
        due("is missing", x.put(0, 0, 1), MISSING);
        due("missing by bits 0, whatever n", x.sheet(3, 0, 7), 0);
        due("is missing", x.put(3, 0, 1), MISSING);
        // A sheet made anew is all 0.
        ProvedMachine y = begun("fun a()int{return 0;}");
        sheetOf(y, 0, 9, 9, 9, 9);
        due("wrong", y.proves(0), 0);
        due("anew", y.sheet(0, 32, 4), 4);
        due("0 of the second", y.proves(0), 2);
    }

    // ---- 22

    private static void put() {
        ProvedMachine x = new ProvedMachine();
        due("missing", x.put(0, -1, 0), MISSING);
        due("no such sheet", x.put(4, 0, 0), BEYOND);
        due("no such sheet", x.put(-1, 0, 0), BEYOND);
        x.sheet(0, 32, 3);
        due("put", x.put(0, 2, Integer.MIN_VALUE), 0);
        due("put behind", x.put(0, 3, 1), BEYOND);
        due("put ahead", x.put(0, -1, 1), BEYOND);
        x.sheet(1, 8, 3);
        due("put of more bits", x.put(1, 2, 257), 0);
    }

    // ---- 23

    private static void copy() {
        ProvedMachine x = begun("fun a()int{int x=7;return x;}");
        sheetOf(x, 0, 99, 0, 0, 1, 7, 1, 1, 0, 0, 99);
        x.sheet(1, 32, 8);
        due("copy", x.copy(0, 1, 1, 0, 8), 8);
        due("it came", x.proves(1), -1);
        due("copy in one sheet, down", x.copy(0, 1, 0, 0, 9), 9);
        due("it came, too", x.proves(0), 10);
        due("copy in one sheet, up", x.copy(0, 0, 0, 2, 8), 8);
        due("copy in one sheet, down", x.copy(0, 2, 0, 0, 8), 8);
        due("it came back whole", x.proves(0), 10);
        due("copy none", x.copy(0, 10, 1, 8, 0), 0);
        due("from behind", x.copy(0, 11, 1, 0, 0), BEYOND);
        due("to behind", x.copy(0, 0, 1, 9, 0), BEYOND);
        due("not so many", x.copy(0, 3, 1, 0, 8), BEYOND);
        due("not so many there", x.copy(0, 0, 1, 1, 8), BEYOND);
        due("from below 0", x.copy(0, -1, 1, 0, 1), BEYOND);
        due("to below 0", x.copy(0, 0, 1, -1, 1), BEYOND);
        due("n below 0", x.copy(0, 0, 1, 0, -1), BEYOND);
        due("most", x.copy(0, Integer.MAX_VALUE, 1, 0, Integer.MAX_VALUE), BEYOND);
        due("most", x.copy(0, 1, 1, 1, Integer.MAX_VALUE), BEYOND);
        due("missing there", x.copy(0, 0, 2, 0, 1), MISSING);
        due("missing here", x.copy(2, 0, 0, 0, 1), MISSING);
        due("no such sheet there", x.copy(2, 0, 4, 0, 1), BEYOND);
        due("no such sheet here", x.copy(-1, 0, 2, 0, 1), BEYOND);
        x.sheet(2, 8, 4);
        due("other bits", x.copy(0, 0, 2, 0, 1), KIND);
        due("other bits ahead of beyond", x.copy(0, -1, 2, 0, 1), KIND);
        x.sheet(3, 8, 4);
        due("8 bits", x.copy(2, 0, 3, 0, 4), 4);
    }

    // ---- 24

    private static void found() {
        ProvedMachine x = new ProvedMachine();
        for (int k = 1; k < 8; k++) {
            due("found " + k, x.found(k), 0);
        }
        x.start();
        x.now(0);
        x.proves(0);
        x.sheet(0, 8, -1);
        x.sheet(0, 8, 1);
        x.proves(0);
        for (int i = 0; i < 31; i++) {
            x.feed(8, 0);
        }
        due("found BEYOND", x.found(1), 0);
        due("found MISSING", x.found(2), 1);
        due("found SIZE", x.found(3), 1);
        due("found KIND", x.found(4), 1);
        due("found FULL", x.found(5), 1);
        due("found NONE", x.found(6), 2);
        due("found HALTED", x.found(7), 0);
        due("found 0", x.found(0), BEYOND);
        due("found 8", x.found(8), BEYOND);
        due("found least", x.found(Integer.MIN_VALUE), BEYOND);
        due("counted, too", x.found(1), 3);
        ProvedMachine y = begun("fun a()int{}");
        y.step(2);
        y.step(1);
        due("found HALTED", y.found(7), 1);
    }

    // ---- 25

    private static void all() {
        ProvedMachine x = with("fun a()int{}fun b()int{}");
        due("bytes", x.all(0), 0);
        due("places", x.all(1), 4);
        due("funs", x.all(2), 2);
        due("begun", x.all(3), 0);
        due("all 4", x.all(4), BEYOND);
        due("all -1", x.all(-1), BEYOND);
        x.start();
        x.feed(3, 0);
        due("begun", x.all(3), 1);
        due("bytes", x.all(0), 3);
    }
}
