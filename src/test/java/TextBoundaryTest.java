/**
 * The boundary cases of texts and code, sentence by sentence: 'Terms' 1 and 2 of the document, promises 2 to 8. Each
 * method quotes the sentence that it tests; where a boundary has two sides both are asked.
 */
public final class TextBoundaryTest {
    private static final Check CHECK = new Check();
    private static final long BEYOND = Check.BEYOND;
    private static final long KIND = Check.KIND;
    private static final long FULL = Check.FULL;
    private static final int LEAST = Integer.MIN_VALUE;
    private static final int MOST = Integer.MAX_VALUE;
    private static final String[] KEYS = ("fun if else while return print int bool row list true false none not and or "
        + "new size head tail").split(" ");
    private static final String SIX = "int a,int b,int c,int d,int e,int f";

    public static void main(String[] args) {
        tapeOf240();
        nBytesOfANumber();
        textOf240();
        emptyTape();
        tokensAsLongAsCanBe();
        wordsOfLetters();
        keysAreNoNames();
        numbersOf5Digits();
        blanks();
        oneToFiveFuns();
        params();
        typesOfFuns();
        statements();
        halfTexts();
        expressions();
        nestOfUnder();
        nestOfBrackets();
        nestOfPairs();
        nestMixed();
        nestAtTheEnd();
        firstOfKind1();
        declaredTwice();
        theSeventhName();
        funNames();
        undeclaredNames();
        calls();
        lastFunWithParams();
        firstOfKind2();
        kindsInOrder();
        typesOfOperators();
        typesOfStatements();
        typesOfCalls();
        firstOfKind3();
        placesOf200();
        faultOfTheLatest();
        whatAFaultLeaves();
        whatATextEnds();
        textsOneAfterAnother();
        numbersOfNames();
        placesOfIf();
        placesOfWhile();
        asKinds();
        shapesOfWays();
        shapesBehindStatements();
        shapesThatWrap();
        askedOutside();
        CHECK.end();
    }

    private static void due(String what, long got, long want) {
        CHECK.due(what, got, want);
    }

    private static void faultAt(int kind, String text) {
        CHECK.faultAt(kind, text);
    }

    private static void right(String text, int places) {
        CHECK.right(text, places);
    }

    /** A text whose only STATEMENT is this one; the @ tells the fault's place. */
    private static void statementFault(int kind, String statement) {
        faultAt(kind, "fun a()int{" + statement + "}");
    }

    private static void statementRight(String statement, int places) {
        right("fun a()int{" + statement + "}", places + 2);
    }

    // ---- the tape

    /** "THE TAPE (240 bytes at most)", "FULL." */
    private static void tapeOf240() {
        for (int n = 1; n <= 8; n++) {
            ProvedMachine x = new ProvedMachine();
            int fed = 0;
            while (fed + n <= 240) {
                fed += n;
                due("feed " + n, x.feed(n, 0), fed);
            }
            for (int more = 240 - fed + 1; more <= 8; more++) {
                due("feed " + more + " behind " + fed, x.feed(more, 0), FULL);
            }
            due("bytes", x.all(0), fed);
            if (fed < 240) {
                due("the rest", x.feed(240 - fed, 0), 240);
            }
            due("one more", x.feed(1, 0), FULL);
            x.text();
            due("empty again", x.feed(8, 0), 8);
        }
    }

    /** "The n lowest bytes of a number, the lowest first", "BEYOND: n is not 1 to 8." */
    private static void nBytesOfANumber() {
        ProvedMachine x = new ProvedMachine();
        for (int n : new int[] {0, 9, -1, -8, 16, LEAST, MOST}) {
            due("feed " + n, x.feed(n, 0x66), BEYOND);
        }
        due("nothing came", x.all(0), 0);
        String text = "fun a()int{}" + " ".repeat(28);
        for (int n = 1; n <= 8; n++) {
            ProvedMachine y = new ProvedMachine();
            for (int at = 0; at + n <= text.length(); at += n) {
                long above = n == 8 ? 0 : -1L << (8 * n);
                due("bytes", y.feed(n, Check.packed(text, at, n) | above), at + n);
            }
            due("text by " + n, y.text(), 2);
        }
        ProvedMachine z = new ProvedMachine();
        z.feed(8, 0xff206e7566202020L | 0xffL << 56);
        due("eight bytes", z.text(), -1);
        due("the highest comes last", z.fault(1), 4 + 3);
    }

    /** A text may have all of the tape. */
    private static void textOf240() {
        String text = "fun a()int{}";
        right(text + " ".repeat(240 - text.length()), 2);
        right("\n".repeat(240 - text.length()) + text, 2);
        faultAt(1, text + " ".repeat(239 - text.length()) + "@}");
        faultAt(1, text.substring(0, 11) + " ".repeat(229) + "@");
        CHECK.faulty("a".repeat(240), 1, 0);
        CHECK.faulty("(".repeat(240), 1, 0);
        CHECK.faulty("1".repeat(240), 1, 0);
        CHECK.faulty("fun ".repeat(60), 1, 4);
    }

    /** "the text's length if it ends too early" */
    private static void emptyTape() {
        faultAt(1, "@");
        faultAt(1, " @");
        faultAt(1, "\n\n @");
        CHECK.faulty(" ".repeat(240), 1, 240);
        CHECK.faulty(" ".repeat(239), 1, 239);
    }

    // ---- tokens

    /** "TOKENS, each as long as can be" */
    private static void tokensAsLongAsCanBe() {
        faultAt(1, "@funa()int{}");
        faultAt(1, "fun a()@intx{}");
        faultAt(1, "fun a()int{@returnx;}");
        statementFault(1, "print @notx;");
        statementFault(1, "print @truefalse;");
        statementFault(1, "print @truean d;");
        statementFault(1, "print 1 @2;");
        statementRight("print 12;", 2);
        statementRight("print not true;", 3);
        statementRight("print not(true);", 3);
        statementRight("if 1<2{}else{}", 5);
        statementRight("if(true)and(true){}", 4);
        statementRight("print 1-1;", 4);
        statementRight("print 1--1;", 5);
        statementRight("print-1;", 3);
        statementRight("print\n1\n;", 2);
        // Digits and letters are TOKENS of their own with nothing between.
        statementRight("print 1<2or 2<1;", 8);
        statementFault(1, "print 1@a;");
        statementFault(1, "print a@1;");
    }

    /** "WORDS (a .. z)", "A WORD of one letter is a NAME" */
    private static void wordsOfLetters() {
        for (char c = 'a'; c <= 'z'; c++) {
            right("fun " + c + "()int{int " + c + "=1;return " + c + ";}", 6);
        }
        for (int b = 0; b < 256; b++) {
            boolean letter = b >= 'a' && b <= 'z';
            boolean blank = b == 32 || b == 10;
            if (!letter && !blank) {
                faultAt(1, "fun @" + (char) b + "()int{}");
            }
        }
    }

    /** "others are KEYS", "a WORD that is neither NAME nor KEY" */
    private static void keysAreNoNames() {
        for (String key : KEYS) {
            faultAt(1, "fun @" + key + "()int{}");
            statementFault(1, "int @" + key + "=1;");
            CHECK.faulty(key + "x", 1, 0);
            statementFault(1, "print @" + key + "x;");
            statementFault(1, "print @x" + key + ";");
            if (key.length() > 3) {
                statementFault(1, "print @" + key.substring(1) + ";");
                statementFault(1, "print @" + key.substring(0, key.length() - 1) + ";");
            }
            statementFault(1, "print @" + key.toUpperCase() + ";");
        }
        statementFault(1, "print @xx;");
        statementFault(1, "print @returnreturn;");
        statementFault(1, "print @" + "a".repeat(200) + ";");
        // Words as long as KEYS that differ in one letter.
        statementFault(1, "@prinu 1;");
        statementFault(1, "@reuurn 1;");
        statementFault(1, "@ig true{}");
    }

    /** "NUMBERS (digits, 5 at most)", "a NUMBER too long" */
    private static void numbersOf5Digits() {
        String[] numbers = {"0", "9", "10", "99", "100", "999", "1000", "9999", "10000", "99999", "00000", "00001"};
        for (String number : numbers) {
            ProvedMachine x = CHECK.with("fun a()int{return " + number + ";}");
            due("number " + number, x.code(0, true), Integer.parseInt(number));
        }
        for (String number : new String[] {"000000", "100000", "999999", "123456789", "0".repeat(100)}) {
            statementFault(1, "return @" + number + ";");
        }
        statementFault(1, "return 12345 @6;");
        statementFault(1, "return 12345@a;");
        // Each digit has its own worth.
        due("digits", CHECK.with("fun a()int{return 98765;}").code(0, true), 98765);
        due("digits", CHECK.with("fun a()int{return 43210;}").code(0, true), 43210);
    }

    /** "blanks (32, 10) may stand between", "also of a byte that is none" */
    private static void blanks() {
        for (int b = 0; b < 256; b++) {
            String text = "fun a()int{" + (char) b + "}";
            if (b == 32 || b == 10) {
                right(text, 2);
                right((char) b + text + (char) b, 2);
            } else if (b != '}') {
                boolean begins = b >= 'a' && b <= 'z';
                CHECK.faulty(text, 1, begins ? 12 : 11);
                CHECK.faulty((char) b + "fun a()int{}", 1, 0);
                CHECK.faulty("fun a()int{}" + (char) b, 1, 12);
            }
        }
        faultAt(1, "fun a()int{} @}");
        // No blank needs to stand between SIGNS; none may stand within a WORD or a NUMBER.
        faultAt(1, "@fu n a()int{}");
        statementFault(1, "print 1 @0;");
    }

    // ---- funs, params, statements

    /** "TEXT: FUN { FUN } (at most 5)", "the sixth fun" */
    private static void oneToFiveFuns() {
        StringBuilder text = new StringBuilder();
        for (int f = 0; f < 5; f++) {
            text.append("fun ").append((char) ('a' + f)).append("()int{}");
            right(text.toString(), 2 * f + 2);
            due("funs", CHECK.with(text.toString()).all(2), f + 1);
        }
        faultAt(1, text + "@fun f()int{}");
        faultAt(1, text + "@fun");
        faultAt(1, text + " \n@fun a()int{}");
        faultAt(1, text + "@}");
        // The sixth fun is told, not what is wrong behind it; what is wrong ahead of it is told first.
        faultAt(1, text + "@fun fun");
        faultAt(1, text.substring(0, 46) + "@+" + text.substring(46) + "fun f()int{}");
        faultAt(1, "fun a()int{}@a");
        faultAt(1, "fun a()int{}@int b()int{}");
    }

    /** "( [ PARAM { , PARAM } ] )" */
    private static void params() {
        right("fun a( )int{}", 2);
        right("fun a(int a)int{}fun b()int{}", 4);
        right("fun a(" + SIX + ")int{}fun b()int{}", 4);
        faultAt(1, "fun a(@");
        faultAt(1, "fun a(@,int a)int{}");
        faultAt(1, "fun a(int a,@");
        faultAt(1, "fun a(int a,@)int{}");
        faultAt(1, "fun a(int a,@,int b)int{}");
        faultAt(1, "fun a(int a@;int b)int{}");
        faultAt(1, "fun a(int@)int{}");
        faultAt(1, "fun a(@b)int{}");
        faultAt(1, "fun a(int a @b)int{}");
        faultAt(1, "fun a(int a@=1)int{}");
        faultAt(1, "fun a(@none a)int{}");
        faultAt(1, "fun a@{}");
        faultAt(1, "fun @()int{}");
    }

    /** "TYPE: int, bool, row, list." */
    private static void typesOfFuns() {
        String[] types = {"int", "bool", "row", "list"};
        for (int t = 0; t < 4; t++) {
            ProvedMachine x = CHECK.with("fun a()" + types[t] + "{}");
            due("type " + types[t], x.fun(0, 3), t);
            due("27's type", x.code(0, true), t);
        }
        for (String key : KEYS) {
            if (!java.util.List.of(types).contains(key)) {
                faultAt(1, "fun a()@" + key + "{}");
                faultAt(1, "fun a(@" + key + " x)int{}");
            }
        }
        faultAt(1, "fun a()@{}");
        faultAt(1, "fun a()@a{}");
        faultAt(1, "fun a()@0{}");
        faultAt(1, "fun a()int @int{}");
    }

    /** The STATEMENTS' forms, each with what can't stand in them. */
    private static void statements() {
        statementRight("", 0);
        statementFault(1, "@;");
        statementFault(1, "@{}");
        statementFault(1, "@1;");
        statementFault(1, "@(a)=1;");
        statementFault(1, "@else{}");
        statementFault(1, "@none;");
        statementFault(1, "@not true;");
        statementFault(1, "@true;");
        statementFault(1, "@fun b()int{}");
        statementFault(1, "int x=1@,y=2;");
        statementFault(1, "int @[1]=1;");
        statementFault(1, "row r@[1]=1;");
        statementFault(1, "int x@:1;");
        statementFault(1, "x@;");
        statementFault(1, "x@(1)=1;");
        statementFault(1, "x@-1;");
        statementFault(1, "x=@;");
        statementFault(1, "x[1]@[1]=1;");
        statementFault(1, "x[@]=1;");
        statementFault(1, "x[1@;");
        // What stands behind [ is one E, which may have an = of its own.
        statementFault(1, "x[1=1@;");
        statementFault(1, "if true@;");
        statementFault(1, "if @{}");
        statementFault(1, "if true{}else @return 1;");
        statementFault(1, "if true{}else{}@else{}");
        statementFault(1, "while true{}@else{}");
        statementFault(1, "while true @print 1;");
        statementFault(1, "return@;");
        statementFault(1, "print@;");
        statementFault(1, "print 1@,2;");
        statementRight("if true{}else{}if true{}", 5);
        statementRight("if true{if true{}else{}}else{}", 6);
    }

    /** "the text's length if it ends too early": behind each TOKEN of a text. */
    private static void halfTexts() {
        String text = "fun a ( int x , bool y ) row { int z = 1 ; z = a ( 1 , true ) [ 0 ] ; row r = new 3 ; r [ 1 ] = 2 ; "
            + "if z < 1 { print 1 ; } else { print - z ; } while not true { } return r ; } fun b ( ) int { }";
        right(text, 35);
        int firstEnd = text.indexOf("} fun") + 1;
        for (int at = 1; at < text.length(); at++) {
            if (text.charAt(at) == ' ' && at != firstEnd) {
                CHECK.faulty(text.substring(0, at), 1, at);
                CHECK.faulty(text.substring(0, at) + " \n", 1, at + 2);
            }
        }
        // The first FUN alone is whole, but it is the last one then, and has PARAMS.
        CHECK.faulty(text.substring(0, firstEnd), 2, 4);
    }

    /** "E: OR, perhaps : E." .. "ONE: .." */
    private static void expressions() {
        statementFault(1, "print 1<2@<3;");
        statementFault(1, "print 1<2@=3;");
        statementFault(1, "print 1=2@<3;");
        statementFault(1, "print true=true@=true;");
        statementRight("print (1<2)=true;", 6);
        statementRight("print true=(1<2);", 6);
        statementRight("print 1+2+3-4-5;", 10);
        statementRight("print 1*2*3/4/5;", 10);
        statementRight("print true or true or true and true and true;", 10);
        statementFault(1, "print 1+@;");
        statementFault(1, "print 1*@/1;");
        statementFault(1, "print @*1;");
        statementFault(1, "print @+1;");
        statementFault(1, "print @or true;");
        statementFault(1, "print true or @or true;");
        statementFault(1, "print 1@not;");
        statementFault(1, "print (@);");
        statementFault(1, "print (1@,2);");
        statementFault(1, "print a(1@;");
        statementFault(1, "print a(@;");
        statementFault(1, "print a(1 @2);");
        statementFault(1, "print a(@,");
        statementFault(1, "print 1:@:none;");
        statementFault(1, "print new@;");
        statementFault(1, "print new@*1;");
        statementFault(1, "print true@(1);");
        statementFault(1, "print 1@(1);");
        statementFault(1, "print (a)@(1);");
        statementRight("row r=new 1;print size r+1;", 3 + 5);
        // UNDER binds closer than all between; [ ] closer than UNDER.
        statementRight("row r=new 1;print -r[0];", 3 + 5);
        statementRight("print head none=head none;", 6);
    }

    // ---- E and UNDER in others

    /** "the first TOKEN of an E or UNDER that lies in 8 others of these": UNDER in UNDER. */
    private static void nestOfUnder() {
        // E, then UNDERS: the seventh UNDER lies in 7, the eighth in 8.
        statementRight("print ------1;", 8);
        statementFault(1, "print -------@1;");
        statementFault(1, "print -------@-1;");
        statementFault(1, "print -------@-------1;");
        statementRight("print not not not not not not true;", 8);
        statementFault(1, "print not not not not not not not @true;");
        statementRight("print size new size new size new 1;", 8);
        statementFault(1, "print size new size new size new -@1;");
        statementRight("print head tail tail tail tail tail none;", 8);
        statementFault(1, "print head tail tail tail tail tail tail @none;");
        // Those that end don't count for what comes behind.
        statementRight("print ------1-------1*------1;", 7 + 8 + 7 + 1 + 1);
        statementFault(1, "print ------1--------@1;");
    }

    private static void nestOfBrackets() {
        // ( ) has E and UNDER each time.
        statementRight("print (((1)));", 2);
        statementFault(1, "print ((((@1))));");
        statementFault(1, "print ((((@(1)))));");
        statementRight("print (((1)))+(((1)));", 4);
        statementRight("print (--(1));", 4);
        statementRight("print --((1));", 4);
        statementFault(1, "print (((-@1)));");
        statementFault(1, "print -(((@1)));");
        String a = "fun a(int x)int{return ";
        right(a + "a(a(a(x)));}fun b()int{}", 3 + 2 + 2 + 2);
        faultAt(1, a + "a(a(a(a(@x))));}fun b()int{}");
        right("fun a()int{return a()+a();}", 6);
        right("fun a()int{return (((a())));}", 4);
        String r = "row r=new 1;";
        statementRight(r + "print r[r[r[0]]];", 3 + 8);
        statementFault(1, r + "print r[r[r[r[@0]]]];");
        statementRight(r + "r[r[r[r[0]]]]=r[r[r[0]]];", 3 + 1 + 7 + 7 + 1);
        statementFault(1, r + "r[r[r[r[r[@0]]]]]=1;");
        statementFault(1, r + "r[0]=r[r[r[r[@0]]]];");
    }

    private static void nestOfPairs() {
        // The E behind : lies in the one ahead; its UNDER in both.
        right("fun a()list{return 1:1:1:1:1:1:none;}", 16);
        faultAt(1, "fun a()list{return 1:1:1:1:1:1:1:@none;}");
        faultAt(1, "fun a()list{return 1:1:1:1:1:1:1:@1:none;}");
        right("fun a()list{return 1:1:1:(1:none);}", 12);
        faultAt(1, "fun a()list{return 1:1:1:1:(1:@none);}");
        faultAt(1, "fun a()list{return 1:1:1:1:1:(@1:none);}");
        faultAt(1, "fun a()list{return 1:1:1:1:1:1:(@1:none);}");
        right("fun a()list{return 1:1:1:1:1:tail none;}", 15);
        faultAt(1, "fun a()list{return 1:1:1:1:1:1:tail @none;}");
    }

    private static void nestMixed() {
        statementRight("print -(-(1));", 4);
        statementFault(1, "print -(-(-@1));");
        statementFault(1, "print -(-((@1)));");
        // E 0, UNDER 1, E 2, UNDER 3, UNDER 4, E 5, UNDER 6, E 7: an UNDER within would lie in 8.
        statementFault(1, "print (-((@1)));");
        statementRight("print (-(-1));", 4);
        // The stands of if, while, return and of a variable begin anew.
        statementRight("if ((true)){if (((true))){int x=(((1)));x=(((1)));return (((x)));}}", 2 + 2 + 2 + 2 + 2);
        statementFault(1, "while ((((@true)))){}");
        statementFault(1, "int x=((((@1))));");
        statementFault(1, "int x=1;x=((((@1))));");
        statementFault(1, "return ((((@1))));");
    }

    private static void nestAtTheEnd() {
        faultAt(1, "fun a()int{print -------@");
        faultAt(1, "fun a()int{print ((((@");
        faultAt(1, "fun a()int{print (((  @");
        statementFault(1, "print ((((@);");
        statementFault(1, "print -------@xx;");
        statementFault(1, "print -------@123456;");
    }

    // ---- the kinds of faults

    /** "FAULTS, of which the first that there is is told: of KIND 1: .. the first TOKEN" */
    private static void firstOfKind1() {
        statementFault(1, "print @; print ; xx 123456");
        statementFault(1, "print @123456; xx");
        statementFault(1, "@xx; print 123456;");
        statementFault(1, "print ((((@1))));; fun");
        statementFault(1, "print 1;@; ((((1))))");
        // A byte that is no TOKEN is not told ahead of what can't stand in front of it.
        statementFault(1, "print @; ? ");
        statementFault(1, "print @? ;; ");
    }

    /** "a NAME that is declared (PARAM, or with TYPE) and was so in its FUN" */
    private static void declaredTwice() {
        faultAt(2, "fun a(int x,int @x)int{}fun b()int{}");
        faultAt(2, "fun a(int x,int y,bool @x)int{}fun b()int{}");
        faultAt(2, "fun a(int x)int{row @x=new 1;}fun b()int{}");
        statementFault(2, "int x=1;int @x=1;");
        statementFault(2, "int x=1;bool @x=true;");
        statementFault(2, "int x=1;int @x=x;");
        statementFault(2, "if true{int x=1;}int @x=1;");
        statementFault(2, "while true{int x=1;}while true{int @x=1;}");
        right("fun a(int x)int{int y=1;}fun b(int x)int{int y=1;}fun c()int{int x=1;int y=1;}", 4 + 4 + 6);
        // A NAME of a FUN is another one.
        right("fun x(int x)int{return x(x);}fun y()int{int x=1;int y=x(x);return y;}", 5 + 9);
    }

    /** "that would be the seventh of its FUN" */
    private static void theSeventhName() {
        right("fun a(" + SIX + ")int{}fun b()int{}", 4);
        faultAt(2, "fun a(" + SIX + ",int @g)int{}fun b()int{}");
        faultAt(2, "fun a(" + SIX + ",int @a)int{}fun b()int{}");
        faultAt(2, "fun a(" + SIX + ",int @g,int h)int{}fun b()int{}");
        faultAt(2, "fun a(" + SIX + ")int{int @g=1;}fun b()int{}");
        StringBuilder text = new StringBuilder();
        for (char c = 'u'; c < 'z'; c++) {
            text.append("int ").append(c).append("=1;");
        }
        statementRight(text + "int a=1;", 12);
        statementRight(text + "if true{int a=1;}", 14);
        statementFault(2, text + "int a=1;int @b=1;");
        statementFault(2, text + "if true{int a=1;}else{bool @b=true;}");
        // Each FUN has six of its own.
        right("fun a(" + SIX + ")int{}fun b(" + SIX + ")int{}fun c()int{int a=1;}", 8);
    }

    /** "the NAME of a FUN that an earlier one has" */
    private static void funNames() {
        faultAt(2, "fun a()int{}fun @a()int{}");
        faultAt(2, "fun a()int{}fun b()int{}fun @a()int{}");
        faultAt(2, "fun a()int{}fun b()int{}fun c()int{}fun d()int{}fun @d()int{}");
        faultAt(2, "fun a()int{}fun @a(int x)bool{}fun b()int{}");
        right("fun a()int{}fun z()int{}", 4);
    }

    /** "a NAME of a variable that is not declared ahead of it in its FUN (..)" */
    private static void undeclaredNames() {
        statementFault(2, "@x=1;");
        statementFault(2, "@x[0]=1;");
        statementFault(2, "print @x;");
        statementFault(2, "print 1+(2*@x);");
        statementFault(2, "@a=1;");
        statementFault(2, "print @a;");
        statementFault(2, "int x=@x;");
        statementFault(2, "int x=1+-@x;");
        statementFault(2, "list x=1:@x;");
        statementFault(2, "print @x;int x=1;");
        statementFault(2, "@x=1;int x=1;");
        statementFault(2, "while @x{bool x=true;}");
        statementRight("int x=1;x=x;", 4);
        statementRight("if true{int x=1;}else{x=2;}x=3;", 9);
        faultAt(2, "fun a(int x)int{}fun b()int{print @x;}");
        faultAt(2, "fun a()int{int x=1;}fun b()int{@x=1;}");
        right("fun a(int x)int{print x;x=1;}fun b()int{}", 8);
    }

    /** "a CALL of a FUN that is neither an earlier one nor this one, or with more or fewer E than it has PARAMS" */
    private static void calls() {
        faultAt(2, "fun a()int{return @b();}");
        faultAt(2, "fun a()int{return @b();}fun b()int{}");
        right("fun a()int{return a();}fun b()int{return a()+b();}", 4 + 6);
        faultAt(2, "fun a()int{int b=1;return @b();}");
        faultAt(2, "fun a()int{return @a(1);}");
        String six = "fun a(" + SIX + ")int{}fun b()int{";
        right(six + "return a(1,2,3,4,5,6);}", 2 + 10);
        faultAt(2, six + "return @a(1,2,3,4,5);}");
        faultAt(2, six + "return @a(1,2,3,4,5,6,7);}");
        faultAt(2, six + "return @a();}");
        // Fewer and more are asked ahead of their TYPES.
        faultAt(2, six + "return @a(true);}");
        faultAt(2, "fun a(int x)int{}fun b()int{return a(@a());}");
        faultAt(2, "fun a(int x)int{}fun b()int{return @a(1,a());}");
    }

    /** "the NAME of the last FUN, if that has PARAMS" */
    private static void lastFunWithParams() {
        faultAt(2, "fun @a(int x)int{}");
        faultAt(2, "fun a()int{}fun @b(row x)int{}");
        faultAt(2, "fun a(int x)int{}fun @b(" + SIX + ")int{return a(1);}");
        right("fun a(int x)int{}fun b()int{}", 4);
        faultAt(2, "fun a()int{}fun b()int{}fun c()int{}fun d()int{}fun @e(int x)int{}");
        right("fun a()int{}fun b()int{}fun c()int{}fun d(int x)int{}fun e()int{}", 10);
    }

    /** "of KIND 2, the first one in the text" */
    private static void firstOfKind2() {
        faultAt(2, "fun a()int{}fun @b(int x,int x)int{}");
        faultAt(2, "fun a()int{}fun @a(int x,int x)int{}");
        faultAt(2, "fun a()int{@x=y;}fun b(int x)int{}");
        faultAt(2, "fun a(int x,int @x)int{}fun b(int y)int{}");
        statementFault(2, "int x=@y;int x=1;");
        statementFault(2, "int x=1;int @x=y;");
        statementFault(2, "@x=y;");
        statementFault(2, "@x[y]=z;");
        statementFault(2, "print @b(y);");
        statementFault(2, "print @a(y);");
        statementFault(2, "print @y+b();");
        // A CALL within another one that is right.
        faultAt(2, "fun a(int x)int{}fun b()int{return a(@c(y));}");
        faultAt(2, "fun a(int x)int{}fun b()int{return a(@y+c());}");
    }

    /** "If there is none, of KIND 2 ..", "If there is none, of KIND 3", a FAULT of KIND 4 behind all. */
    private static void kindsInOrder() {
        statementFault(1, "x=true+1;@;");
        statementFault(1, "print none;print x;@;");
        statementFault(2, "print none;print @x;");
        statementFault(3, "@print none;print 1;");
        faultAt(2, "fun a()int{print true+1;}fun @a()int{}");
        faultAt(1, "fun a()int{print true+1;}fun a()int{}@?");
        String most = "return 1" + "+1".repeat(99);
        CHECK.faulty("fun a()int{" + most + ";}", 4, 11 + most.length() + 2);
        statementFault(3, most + "@+none;");
        statementFault(2, most + "+@x;");
        statementFault(2, most + "+none+@x;");
        statementFault(1, most + "+x+none;@;");
        statementFault(1, most + "+@xx;");
    }

    // ---- types

    private static final String[] OF_TYPES = {"1", "true", "(new 1)", "none"};

    /** The type that a OP b has to have for each TYPE of a and b, -1 where it is wrong. */
    private static int between(String op, int a, int b) {
        switch (op) {
            case " or ", " and ":
                return a == 1 && b == 1 ? 1 : -1;
            case "<":
                return a == 0 && b == 0 ? 1 : -1;
            case "=":
                return a == b && a < 2 ? 1 : -1;
            case ":":
                return a == 0 && b == 3 ? 3 : -1;
            default:
                return a == 0 && b == 0 ? 0 : -1;
        }
    }

    /** "TYPES: or, and, not: bools, a bool. .." */
    private static void typesOfOperators() {
        String[] types = {"int", "bool", "row", "list"};
        for (String op : new String[] {" or ", " and ", "<", "=", "+", "-", "*", "/", ":"}) {
            for (int a = 0; a < 4; a++) {
                for (int b = 0; b < 4; b++) {
                    int put = between(op, a, b);
                    String sign = op.charAt(0) == ' ' ? " @" + op.substring(1) : "@" + op;
                    typedAs(types, OF_TYPES[a] + sign + OF_TYPES[b], put);
                }
            }
        }
        int[] wanted = {0, 1, 2, 3, 3, 0};
        int[] made = {0, 1, 0, 0, 3, 2};
        String[] ahead = {"-", "not ", "size ", "head ", "tail ", "new "};
        for (int i = 0; i < 6; i++) {
            for (int a = 0; a < 4; a++) {
                typedAs(types, "@" + ahead[i] + OF_TYPES[a], a == wanted[i] ? made[i] : -1);
            }
        }
        for (int a = 0; a < 4; a++) {
            for (int b = 0; b < 4; b++) {
                typedAs(types, OF_TYPES[a] + "@[" + OF_TYPES[b] + "]", a == 2 && b == 0 ? 0 : -1);
            }
        }
        for (int a = 0; a < 4; a++) {
            typedAs(types, OF_TYPES[a], a);
        }
        typedAs(types, "false", 1);
    }

    /** An E that has this TYPE and no other one; -1: it is wrong at the @. */
    private static void typedAs(String[] types, String marked, int type) {
        String e = marked.replace("@", "");
        for (int t = 0; t < 4; t++) {
            String marks = "fun a()" + types[t] + "{return " + (type < 0 ? marked : e) + ";}";
            if (type < 0) {
                faultAt(3, marks);
            } else if (t == type) {
                due("fault of " + e, CHECK.with(marks).fault(0), 0);
            } else {
                faultAt(3, marks.replace("return", "@return"));
            }
        }
    }

    /** "STATEMENTS: E has the TYPE of its variable; NAME is a row, and both E ints, with [ ]; .." */
    private static void typesOfStatements() {
        String[] types = {"int", "bool", "row", "list"};
        for (int t = 0; t < 4; t++) {
            for (int e = 0; e < 4; e++) {
                String declared = types[t] + " x=" + OF_TYPES[e] + ";";
                String begun = types[t] + " x=" + OF_TYPES[t] + ";";
                String given = "x=" + OF_TYPES[e] + ";";
                if (t == e) {
                    due("declared", CHECK.with("fun a()int{" + declared + "}").fault(0), 0);
                    due("given", CHECK.with("fun a()int{" + begun + given + "}").fault(0), 0);
                } else {
                    statementFault(3, "@" + declared);
                    statementFault(3, begun + " @" + given);
                }
            }
            String name = types[t] + " x=" + OF_TYPES[t] + ";";
            boolean isRow = t == 2;
            statementType(isRow, name, "x[1]=1;");
            statementType(false, name, "x[true]=1;");
            statementType(false, name, "x[1]=none;");
            statementType(t == 1, "", "if " + OF_TYPES[t] + "{}");
            statementType(t == 1, "", "while " + OF_TYPES[t] + "{}");
            statementType(t == 0, "", "return " + OF_TYPES[t] + ";");
            statementType(t == 0 || t == 1, "", "print " + OF_TYPES[t] + ";");
        }
    }

    private static void statementType(boolean fits, String ahead, String statement) {
        if (fits) {
            due("fault of " + statement, CHECK.with("fun a()int{" + ahead + statement + "}").fault(0), 0);
        } else {
            statementFault(3, ahead + "@" + statement);
        }
    }

    /** "the NAME of a CALL (its E)" */
    private static void typesOfCalls() {
        String f = "fun f(int a,bool b,row c,list d)bool{}fun m()bool{return ";
        due("right", CHECK.with(f + "f(1,true,new 1,none);}").fault(0), 0);
        String[] e = {"1", "true", "new 1", "none"};
        for (int i = 0; i < 4; i++) {
            for (int t = 0; t < 4; t++) {
                String[] given = e.clone();
                given[i] = e[t];
                if (t != i) {
                    faultAt(3, f + "not @f(" + String.join(",", given) + ");}");
                }
            }
        }
        faultAt(3, f + "1@<f(1,true,new 1,none);}");
        faultAt(3, f.replace("return ", "@return ").replace(")bool{}", ")int{}") + "f(1,true,new 1,none);}");
        // Of itself, too.
        faultAt(3, "fun f(int a)bool{return @f(f(1));}fun m()int{}");
    }

    /** "in the order in which what asks them ends (what is within ahead of it, left ahead of right)" */
    private static void firstOfKind3() {
        statementFault(3, "print none+(1@+none);");
        statementFault(3, "print (1@+none)+none;");
        statementFault(3, "print none@+1+none;");
        statementFault(3, "print 1+2@*none;");
        statementFault(3, "print none*(@-none);");
        statementFault(3, "print not -@not 1;");
        statementFault(3, "print -@size 1;");
        statementFault(3, "print 1[none@[1]];");
        statementFault(3, "print 1@[1][none];");
        statementFault(3, "print (new 1)[0]@[0];");
        statementFault(3, "print none:1@:2;");
        statementFault(3, "int x=true@+1;");
        statementFault(3, "int x=1;x[none]=none@*1;");
        statementFault(3, "int x=1;x[@-none]=none*1;");
        statementFault(3, "@int x=true;int y=true+1;");
        statementFault(3, "if 1@+none{print none;}");
        statementFault(3, "@if 1{print none+1;}");
        statementFault(3, "@while 1{print none+1;}");
        statementFault(3, "if true{@print none;}else{print none;}");
        statementFault(3, "if true{}else{@print none;}");
        statementFault(3, "while true{@print none;}return none;");
        statementFault(3, "return not @not 1;");
        faultAt(3, "fun f(int x)int{return @f(true);}fun m()int{return f(true);}");
        faultAt(3, "fun f(int x)int{}fun m()int{return f(@f(true))+f(none);}");
        faultAt(3, "fun f(int x,int y)int{}fun m()int{return f(true,1@+none);}");
    }

    // ---- code

    /** "at most 200; a TEXT with more has a FAULT of KIND 4 at its length" */
    private static void placesOf200() {
        String most = "fun a()int{return 1" + "+1".repeat(98) + ";}";
        right(most, 200);
        right(most + " \n", 200);
        String more = most.replace("return 1", "return -1");
        CHECK.faulty(more, 4, more.length());
        CHECK.faulty("\n" + more + " \n", 4, more.length() + 3);
        CHECK.faulty(" ".repeat(240 - more.length()) + more, 4, 240);
        // The FUNS count together.
        String two = "fun a()int{}fun b()int{return 1" + "+1".repeat(97) + ";}";
        right(two, 200);
        CHECK.faulty(two.replace("return 1", "return -1"), 4, two.length() + 1);
        ProvedMachine x = CHECK.with(most);
        due("the last place", x.code(199, false), 25);
        due("no place", x.code(200, false), BEYOND);
        due("start", x.start(), 200);
        due("steps", x.step(400), 198);
        due("result", x.result(), 99);
        String print = "fun a()int{print 1" + "+1".repeat(97) + ";}";
        right(print, 198);
        String while1 = "fun a()int{while true{" + "int a=1;" + "print 1" + "+1".repeat(93) + ";}}";
        right(while1, 2 + 2 + 188 + 1 + 2);
        CHECK.faulty(while1.replace("a=1", "a=1+1+1+1"), 4, while1.length() + 6);
    }

    /** "Of the latest text(): 0 its FAULT's KIND (0: none, or ahead of any), 1 the place (-1: none, no finding)." */
    private static void faultOfTheLatest() {
        ProvedMachine x = new ProvedMachine();
        due("kind ahead of any", x.fault(0), 0);
        due("place ahead of any", x.fault(1), -1);
        Check.feed(x, "fun a()int{print none;}");
        due("kind ahead of any", x.fault(0), 0);
        x.text();
        due("kind", x.fault(0), 3);
        due("place", x.fault(1), 11);
        x.feed(1, 'x');
        due("the latest text's", x.fault(0), 3);
        x.text();
        due("kind", x.fault(0), 1);
        due("place", x.fault(1), 0);
        Check.read(x, "fun a()int{}");
        due("none", x.fault(0), 0);
        due("none", x.fault(1), -1);
        for (int what : new int[] {2, -1, 3, LEAST, MOST}) {
            due("fault " + what, x.fault(what), BEYOND);
        }
        for (int k = 2; k < 8; k++) {
            due("no finding", x.found(k), 0);
        }
        due("BEYOND alone", x.found(1), 5);
    }

    /** "with a FAULT -1 (no finding): CODE and MACHINE stay" */
    private static void whatAFaultLeaves() {
        String most = "fun a()row{print 1" + "+1".repeat(99) + ";}";
        for (String bad : new String[] {"", "fun", "fun b()int{return x;}", "fun b()int{return none;}", most}) {
            ProvedMachine x = CHECK.begun("fun f(int x)int{print x;return x;}fun m()int{return size new f(3);}");
            x.step(4);
            String ahead = Sight.of(x);
            due("text", Check.read(x, bad), -1);
            due("tape", x.all(0), 0);
            CHECK.same("behind " + bad, Sight.of(x), ahead);
            due("back", x.back(30), 4);
            due("all", x.step(400), 9);
            due("result", x.result(), 3);
            due("again", x.start(), 13);
        }
        ProvedMachine y = new ProvedMachine();
        due("text", Check.read(y, "fun"), -1);
        due("no code", y.all(1), 0);
        due("no funs", y.all(2), 0);
        due("no code", y.start(), Check.NONE);
    }

    /** "how many places its CODE has (no MACHINE is begun then)" */
    private static void whatATextEnds() {
        ProvedMachine x = CHECK.begun("fun a()int{int x=1;print x;return x;}fun b()int{print a();}");
        x.step(3);
        due("text", Check.read(x, "fun c()row{}"), 2);
        due("no machine", x.all(3), 0);
        due("no machine", x.step(1), Check.NONE);
        due("no machine", x.back(1), Check.NONE);
        due("one fun", x.all(2), 1);
        due("no second fun", x.fun(1, 0), BEYOND);
        due("its type", x.fun(0, 3), 2);
        due("its variables", x.fun(0, 2), 0);
        due("no third place", x.code(2, false), BEYOND);
        due("start", x.start(), 2);
        due("nothing is left", x.now(5), 0);
        due("nothing is left", x.now(4), 0);
        due("nothing is left", x.now(8), 0);
    }

    /** What earlier texts had, whole or with a FAULT of any KIND, is nothing to a later one. */
    private static void textsOneAfterAnother() {
        String six = "int u=1;bool v=true;row w=new 1;list x=none;int y=1;int z=2;";
        String[] texts = {"fun a()int{" + six + "}", "fun b()int{int y=1;return y;print 1;}", "fun a()int{return x;}",
            "fun c(row r)int{return r[0];}fun d()int{" + six + "while v{}}", "fun a()int{return 1+(", "fun e()row{}",
            "fun a()int{if true{while true{if true{", "fun f()int{return 1;while true{print 2;}}", "fun a()int{x=true+1;}",
            "fun a()int{return true;}", "fun a()int{return 1" + "+1".repeat(99) + ";}", "fun g()bool{bool a=1<2;return a;}",
            "fun a(" + SIX + ")int{}", "fun a(" + SIX + ")int{}fun h()int{}", "", "fun i()list{list l=1:none;return l;}"};
        for (int first = 0; first < texts.length; first++) {
            for (int second = 0; second < texts.length; second++) {
                ProvedMachine x = new ProvedMachine();
                Check.read(x, texts[first]);
                Check.read(x, texts[second]);
                ProvedMachine alone = new ProvedMachine();
                long places = Check.read(alone, texts[second]);
                String what = texts[second] + " behind " + texts[first];
                due("kind of " + what, x.fault(0), alone.fault(0));
                due("place of " + what, x.fault(1), alone.fault(1));
                if (places >= 0) {
                    CHECK.same("code of " + what, shapesOf(x) + Sight.of(x), shapesOf(alone) + Sight.of(alone));
                    // The third text is read where the first one was.
                    due("again " + what, Check.read(x, texts[second]), places);
                    CHECK.same("code of " + what, shapesOf(x) + Sight.of(x), shapesOf(alone) + Sight.of(alone));
                }
            }
        }
    }

    private static String shapesOf(ProvedMachine x) {
        StringBuilder shapes = new StringBuilder();
        for (int place = 0; place < x.all(1); place++) {
            shapes.append(x.shape(place)).append(' ');
        }
        return shapes.toString();
    }

    /** "NAME 3 with its number (in its FUN, as declared from 0 on)", "21 with the NAME's number", "4 with .. its FUN" */
    private static void numbersOfNames() {
        ProvedMachine x = CHECK.with("fun a(" + SIX + ")int{return f;}fun b()int{int z=1;int y=z;y=a(z,y,0,0,0,0);}");
        due("the sixth", x.code(0, true), 5);
        due("z is 0", x.code(5, true), 0);
        due("z is read", x.code(6, true), 0);
        due("y is 1", x.code(7, true), 1);
        due("y is an E", x.code(9, true), 1);
        due("call", x.code(14, false), 4);
        due("of fun 0", x.code(14, true), 0);
        due("y is given", x.code(15, true), 1);
        ProvedMachine y = CHECK.with("fun a()int{}fun b()int{}fun c()int{}fun d()int{}fun e()int{print e();print d();}");
        due("the fifth fun", y.code(8, true), 4);
        due("the fourth fun", y.code(10, true), 3);
        // Its own ones are declared from 0 on in each FUN.
        due("anew", CHECK.with("fun a(int x,int y)int{}fun b()int{int z=1;}").code(3, true), 0);
    }

    /** "23 leads behind the first BLOCK (and its 24), 24 behind the other one" */
    private static void placesOfIf() {
        ProvedMachine x = CHECK.with("fun a()int{if true{}if true{}else{}if true{print 1;}else{print 2;}}");
        long[][] want = {{1, 1}, {23, 2}, {1, 1}, {23, 5}, {24, 5}, {1, 1}, {23, 10}, {0, 1}, {26, 0}, {24, 12}, {0, 2},
            {26, 0}, {27, 0}, {25, 0}};
        codeIs(x, want);
    }

    /** "while: E, 23 with the place behind all, BLOCK, 24 with the place of its E" */
    private static void placesOfWhile() {
        ProvedMachine x = CHECK.with("fun z()int{}fun a()int{while true{}while 1<2{print 1;if true{}}}");
        long[][] want = {{27, 0}, {25, 0}, {1, 1}, {23, 5}, {24, 2}, {0, 1}, {0, 2}, {15, 0}, {23, 14}, {0, 1}, {26, 0},
            {1, 1}, {23, 13}, {24, 5}, {27, 0}, {25, 0}};
        codeIs(x, want);
    }

    private static void codeIs(ProvedMachine x, long[][] want) {
        due("places", x.all(1), want.length);
        for (int place = 0; place < want.length; place++) {
            due("op at " + place, x.code(place, false), want[place][0]);
            due("argument at " + place, x.code(place, true), want[place][1]);
        }
    }

    /** "0 any, 1 of those that have a place as ARGUMENT, 2 of those that take VALUES and put one (..), 3 CALLS" */
    private static void asKinds() {
        String text = "fun f()int{}fun m()int{row r=new 1;r[0]=f();list l=1:tail none;print -head l+size r-r[0]*2/1;"
            + "if not true or true and 1<2{print 1=1;}else{}while false{}}";
        ProvedMachine x = CHECK.with(text);
        boolean[] seen = new boolean[28];
        for (int place = 0; place < x.all(1); place++) {
            int op = (int) x.code(place, false);
            seen[op] = true;
            due("any " + op, x.as(place, 0), op);
            due("place " + op, x.as(place, 1), op == 23 || op == 24 ? op : KIND);
            due("takes and puts " + op, x.as(place, 2), op >= 4 && op <= 20 ? op : KIND);
            due("call " + op, x.as(place, 3), op == 4 ? op : KIND);
        }
        for (int op = 0; op < 28; op++) {
            due("op is in the text: " + op, seen[op] ? 1 : 0, 1);
        }
        for (int kind : new int[] {4, -1, LEAST, MOST}) {
            due("kind " + kind, x.as(0, kind), BEYOND);
            due("kind of no place " + kind, x.as(-1, kind), BEYOND);
        }
    }

    // ---- shapes

    private static void shapesAre(String text, long... shapes) {
        ProvedMachine x = CHECK.with(text);
        due("places of " + text, x.all(1), shapes.length);
        for (int i = 0; i < shapes.length; i++) {
            due("shape " + i + " of " + text, x.shape(i), shapes[i]);
        }
    }

    /** "of a place to which no way leads 3125 (23 leads both on and to its place; 25 leads nowhere)" */
    private static void shapesOfWays() {
        long no = 3125;
        shapesAre("fun a()int{}", 0, 1);
        shapesAre("fun a()list{}", 0, 4);
        shapesAre("fun a()int{return 1;}fun b()int{}", 0, 1, no, no, 0, 1);
        shapesAre("fun a()int{return 1;print 1;}", 0, 1, no, no, no, no);
        shapesAre("fun a()int{if true{return 1;}}", 0, 2, 0, 1, 0, 1);
        shapesAre("fun a()int{if true{return 1;}else{}}", 0, 2, 0, 1, no, 0, 1);
        shapesAre("fun a()int{if true{}else{return 1;}}", 0, 2, 0, 0, 1, 0, 1);
        shapesAre("fun a()int{if true{return 1;}else{return 2;}}", 0, 2, 0, 1, no, 0, 1, no, no);
        shapesAre("fun a()int{while false{return 1;}}", 0, 2, 0, 1, no, 0, 1);
        shapesAre("fun a()int{return 1;while true{}}", 0, 1, no, no, no, no, no);
        shapesAre("fun a()int{return 1;if true{}else{}}", 0, 1, no, no, no, no, no);
        shapesAre("fun a()int{while true{if true{return 1;}else{return 2;}print 1;}}", 0, 2, 0, 2, 0, 1, no, 0, 1, no, no,
            no, 0, 1);
        // Digits are TYPE and 1, the lowest VALUE the highest digit.
        shapesAre("fun f(int a,bool b,row c,list d)int{}fun m()int{print f(1,true,new 1,none);}", 0, 1,
            0, 1, 7, 36, 38, 194, 1, 0, 1);
    }

    /** Nothing is left on the STACK by a STATEMENT; an ARGUMENT that is no place leads nowhere. */
    private static void shapesBehindStatements() {
        long no = 3125;
        shapesAre("fun a()int{int x=1;x=2;print 3;}", 0, 1, 0, 1, 0, 1, 0, 1);
        shapesAre("fun a()int{row r=new 1;r[0]=2;r=r;print 3;}", 0, 1, 3, 0, 3, 16, 81, 0, 3, 0, 1, 0, 1);
        shapesAre("fun a()int{bool b=true;if b{b=b;}else{b=b;}while b{b=b;}print b;}", 0, 2, 0, 2, 0, 2, 0, 0, 2, 0, 2, 0,
            2, 0, 0, 2, 0, 1);
        shapesAre("fun a()int{return 2;print 1;}", 0, 1, no, no, no, no);
        shapesAre("fun a()int{return 3;print 1;}", 0, 1, no, no, no, no);
        shapesAre("fun a()int{return 4;print 1;}", 0, 1, no, no, no, no);
        shapesAre("fun a()list{return none;}", 0, 4, no, no);
        // 4, 3 and 21 have numbers of FUNS and NAMES, 27 that of a TYPE.
        shapesAre("fun a()int{int v=1;int w=v;return w;}", 0, 1, 0, 1, 0, 1, no, no);
        shapesAre("fun a()int{return 1;}fun b()int{return a();}", 0, 1, no, no, 0, 1, no, no);
    }

    /** "(a long that wraps, if there are many)" */
    private static void shapesThatWrap() {
        String call = "a(x,x,x,x,x,";
        String deep = "x or x and x=";
        String head = "fun a(bool a,bool b,bool c,bool d,bool e,bool f)bool{}fun b()bool{bool x=true;return ";
        ProvedMachine x = CHECK.with(head + deep + call + deep + call + deep + call + deep + "x)));}");
        java.math.BigInteger whole = java.math.BigInteger.ZERO;
        for (int i = 0; i <= 28; i++) {
            due("a long holds 27 digits", whole.bitLength() > 63 ? 1 : 0, i > 27 ? 1 : 0);
            due("shape of " + i, x.shape(4 + i), whole.longValue());
            whole = whole.multiply(java.math.BigInteger.valueOf(5)).add(java.math.BigInteger.TWO);
        }
    }

    /** "BEYOND: no such place", "BEYOND: no such FUN, or another what", "BEYOND: another what" */
    private static void askedOutside() {
        ProvedMachine none = new ProvedMachine();
        ProvedMachine x = CHECK.with("fun a(int x)int{int y=1;}fun b()bool{}");
        for (int at : new int[] {-1, 6, 199, 200, LEAST, MOST}) {
            due("code " + at, x.code(at, false), BEYOND);
            due("argument " + at, x.code(at, true), BEYOND);
            due("shape " + at, x.shape(at), BEYOND);
            due("as " + at, x.as(at, 0), BEYOND);
            due("as " + at, x.as(at, 1), BEYOND);
        }
        due("the last", x.code(5, false), 25);
        due("the last's shape", x.shape(5), 2);
        due("the last as any", x.as(5, 0), 25);
        due("no code", none.code(0, false), BEYOND);
        due("no shape", none.shape(0), BEYOND);
        due("no op", none.as(0, 0), BEYOND);
        due("no fun", none.fun(0, 0), BEYOND);
        for (int f : new int[] {-1, 2, 5, LEAST, MOST}) {
            due("fun " + f, x.fun(f, 0), BEYOND);
        }
        for (int what : new int[] {-1, 4, LEAST, MOST}) {
            due("fun's " + what, x.fun(0, what), BEYOND);
            due("fun's " + what, x.fun(1, what), BEYOND);
            due("all " + what, x.all(what), BEYOND);
        }
        long[][] want = {{0, 1, 2, 0}, {4, 0, 0, 1}};
        for (int f = 0; f < 2; f++) {
            for (int what = 0; what < 4; what++) {
                due("fun " + f + " " + what, x.fun(f, what), want[f][what]);
            }
        }
    }
}
