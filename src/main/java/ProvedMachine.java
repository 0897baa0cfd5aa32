import java.util.Arrays;

/**
 * A small language and its machine, as ../shared/DOC.md tells it: texts are read and made code, a
 * machine goes over the code step by step and back again, and rows that tell its steps are proved.
 */
public final class ProvedMachine {
    private static final long LOW = -9000000000000000L;
    private static final int BEYOND = 1;
    private static final int MISSING = 2;
    private static final int SIZE = 3;
    private static final int KIND = 4;
    private static final int FULL = 5;
    private static final int NONE = 6;
    private static final int HALTED = 7;

    private static final int TAPE_BYTES = 240;
    private static final int STEPS_A_CALL = 400;
    private static final int STEPS_BACK = 30;
    private static final int SHEETS = 4;
    private static final int PROOF_NUMBERS = 4;

    private static final int TYPE_INT = 0;
    private static final int TYPE_BOOL = 1;
    private static final int TYPE_ROW = 2;
    private static final int TYPE_LIST = 3;

    private static final int OP_NUMBER = 0;
    private static final int OP_TRUTH = 1;
    private static final int OP_NONE = 2;
    private static final int OP_NAME = 3;
    private static final int OP_CALL = 4;
    private static final int OP_NEGATE = 5;
    private static final int OP_NOT = 6;
    private static final int OP_SIZE = 7;
    private static final int OP_HEAD = 8;
    private static final int OP_TAIL = 9;
    private static final int OP_NEW = 10;
    private static final int OP_INDEX = 11;
    private static final int OP_PAIR = 12;
    private static final int OP_OR = 13;
    private static final int OP_AND = 14;
    private static final int OP_LESS = 15;
    private static final int OP_SAME = 16;
    private static final int OP_ADD = 17;
    private static final int OP_SUBTRACT = 18;
    private static final int OP_MULTIPLY = 19;
    private static final int OP_DIVIDE = 20;
    private static final int OP_STORE = 21;
    private static final int OP_STORE_IN_ROW = 22;
    private static final int OP_BRANCH = 23;
    private static final int OP_JUMP = 24;
    private static final int OP_RETURN = 25;
    private static final int OP_PRINT = 26;
    private static final int OP_FIRST = 27;

    private final int[] tape = new int[TAPE_BYTES];
    private int fed = 0;
    private final Reader reader = new Reader();
    private Program program = new Program();
    private final Machine machine = new Machine(program);
    private boolean begun = false;
    private final Sheet[] sheets = new Sheet[SHEETS];
    private final int[] findings = new int[HALTED + 1];
    private int faultKind = 0;
    private int faultPlace = -1;

    public ProvedMachine() {
        for (int s = 0; s < SHEETS; s++) {
            sheets[s] = new Sheet();
        }
    }

    // ---- texts, code

    public long feed(int n, long bytes) {
        if (n < 1 || n > 8) {
            return finding(BEYOND);
        }
        if (fed + n > TAPE_BYTES) {
            return finding(FULL);
        }
        for (int i = 0; i < n; i++) {
            tape[fed + i] = (int) (bytes >>> (8 * i)) & 255;
        }
        fed += n;
        return fed;
    }

    public long text() {
        reader.read(tape, fed);
        faultKind = reader.faultKind();
        faultPlace = reader.faultPlace(fed);
        fed = 0;
        if (faultKind != 0) {
            return -1;
        }
        // The reader writes into the program that is out of use, so that a FAULT leaves CODE as it is.
        program = reader.exchange(program);
        begun = false;
        return program.places;
    }

    public long fault(int what) {
        if (what == 0) {
            return faultKind;
        }
        return what == 1 ? faultPlace : finding(BEYOND);
    }

    public long code(int place, boolean argument) {
        if (!program.has(place)) {
            return finding(BEYOND);
        }
        return argument ? program.argumentAt(place) : program.opAt(place);
    }

    public long as(int place, int kind) {
        if (!program.has(place) || kind < 0 || kind > 3) {
            return finding(BEYOND);
        }
        int op = program.opAt(place);
        return isOfKind(op, kind) ? op : finding(KIND);
    }

    public long shape(int place) {
        return program.has(place) ? program.shapeAt(place) : finding(BEYOND);
    }

    public long fun(int f, int what) {
        if (f < 0 || f >= program.funs || what < 0 || what >= Program.HEAD_NUMBERS) {
            return finding(BEYOND);
        }
        return program.head(f, what);
    }

    // ---- the machine

    public long start() {
        if (program.places == 0) {
            return finding(NONE);
        }
        machine.begin(program);
        begun = true;
        return program.places;
    }

    public long step(int n) {
        if (n < 1 || n > STEPS_A_CALL) {
            return finding(BEYOND);
        }
        if (!begun) {
            return finding(NONE);
        }
        if (machine.isHalted()) {
            return finding(HALTED);
        }
        int done = 0;
        while (done < n && machine.attempt()) {
            machine.keep();
            done++;
        }
        return done;
    }

    public long back(int n) {
        if (n < 1 || n > STEPS_BACK) {
            return finding(BEYOND);
        }
        if (!begun || machine.kept == 0) {
            return finding(NONE);
        }
        int gone = Math.min(n, machine.kept);
        for (int i = 0; i < gone; i++) {
            machine.undo();
        }
        return gone;
    }

    public long now(int what) {
        if (!begun) {
            return finding(NONE);
        }
        switch (what) {
            case 0:
                return machine.read(Machine.HALT);
            case 1:
                return machine.isDone() ? 0 : machine.place();
            case 2:
                return machine.read(Machine.FRAMES);
            case 3:
                return machine.read(Machine.HEIGHT);
            case 4:
                return machine.read(Machine.PRINTS);
            case 5:
                return machine.read(Machine.STEPS);
            case 6:
                return machine.objectsInUse();
            case 7:
                return machine.read(Machine.CLEARINGS);
            case 8:
                return machine.kept;
            default:
                return finding(BEYOND);
        }
    }

    public long stack(int i, boolean type) {
        if (!begun) {
            return finding(NONE);
        }
        if (i < 0 || i >= machine.read(Machine.HEIGHT)) {
            return finding(BEYOND);
        }
        return machine.read((type ? Machine.TYPES : Machine.VALUES) + i);
    }

    public long variable(int f, int v) {
        if (!begun) {
            return finding(NONE);
        }
        if (f < 0 || f >= machine.read(Machine.FRAMES) || v < 0 || v >= machine.variablesOf(f)) {
            return finding(BEYOND);
        }
        return machine.variableOf(f, v);
    }

    public long object(int o, int what) {
        if (!begun) {
            return finding(NONE);
        }
        if (o < 1 || o > Machine.OBJECTS || !machine.objectHas(o, what)) {
            return finding(BEYOND);
        }
        return machine.objectNumber(o, what);
    }

    public long printed(int i) {
        if (!begun) {
            return finding(NONE);
        }
        if (i < 0 || i >= machine.read(Machine.PRINTS)) {
            return finding(BEYOND);
        }
        return machine.read(Machine.PRINTED + i);
    }

    public long result() {
        if (!begun || !machine.isDone()) {
            return finding(NONE);
        }
        return machine.read(Machine.RESULT);
    }

    public long clear() {
        return begun ? machine.clearByHand() : finding(NONE);
    }

    // ---- proofs

    public long proof(int i, int k) {
        if (!begun) {
            return finding(NONE);
        }
        if (i < 0 || i >= machine.kept || k < 0 || k >= PROOF_NUMBERS) {
            return finding(BEYOND);
        }
        return machine.proofNumber(i + 1, k);
    }

    public long proves(int s) {
        if (!isSheet(s)) {
            return finding(BEYOND);
        }
        Sheet told = sheets[s];
        if (told.bits == 0) {
            return finding(MISSING);
        }
        if (told.bits != 32) {
            return finding(KIND);
        }
        if (!begun) {
            return finding(NONE);
        }
        if (machine.isHalted()) {
            return finding(HALTED);
        }
        machine.save();
        int wrong = firstWrong(told);
        machine.restore();
        return wrong;
    }

    // ---- sheets, the whole

    public long sheet(int s, int bits, int n) {
        if (!isSheet(s) || bits != 0 && bits != 8 && bits != 16 && bits != 32) {
            return finding(BEYOND);
        }
        if (n < 0) {
            return finding(SIZE);
        }
        if (n > Sheet.NUMBERS) {
            return finding(BEYOND);
        }
        int length = bits == 0 ? 0 : n;
        sheets[s].lay(bits, length);
        return length;
    }

    public long put(int s, int i, int v) {
        if (!isSheet(s)) {
            return finding(BEYOND);
        }
        if (sheets[s].bits == 0) {
            return finding(MISSING);
        }
        if (!sheets[s].has(i, 1)) {
            return finding(BEYOND);
        }
        sheets[s].write(i, v);
        return 0;
    }

    public long copy(int s, int from, int t, int to, int n) {
        if (!isSheet(s) || !isSheet(t)) {
            return finding(BEYOND);
        }
        if (sheets[s].bits == 0 || sheets[t].bits == 0) {
            return finding(MISSING);
        }
        if (sheets[s].bits != sheets[t].bits) {
            return finding(KIND);
        }
        if (!sheets[s].has(from, n) || !sheets[t].has(to, n)) {
            return finding(BEYOND);
        }
        System.arraycopy(sheets[s].numbers, from, sheets[t].numbers, to, n);
        return n;
    }

    public long found(int k) {
        return k < BEYOND || k > HALTED ? finding(BEYOND) : findings[k];
    }

    public long all(int what) {
        switch (what) {
            case 0:
                return fed;
            case 1:
                return program.places;
            case 2:
                return program.funs;
            case 3:
                return begun ? 1 : 0;
            default:
                return finding(BEYOND);
        }
    }

    private long finding(int k) {
        if (k >= 0 && k < findings.length) {
            findings[k]++;
        }
        return LOW - k;
    }

    private static boolean isSheet(int s) {
        return s >= 0 && s < SHEETS;
    }

    private static boolean isOfKind(int op, int kind) {
        switch (kind) {
            case 0:
                return true;
            case 1:
                return op == OP_BRANCH || op == OP_JUMP;
            case 2:
                return op >= OP_CALL && op <= OP_DIVIDE;
            default:
                return op == OP_CALL;
        }
    }

    private int firstWrong(Sheet told) {
        for (int at = 0; at < told.length; at += PROOF_NUMBERS) {
            if (!told.has(at, PROOF_NUMBERS)) {
                return told.length;
            }
            if (!machine.attempt()) {
                return at;
            }
            for (int k = 0; k < PROOF_NUMBERS; k++) {
                if (machine.proofNumber(0, k) != told.numbers[at + k]) {
                    return at + k;
                }
            }
        }
        return -1;
    }

    /** A row of numbers of as many bits; of 0 bits: MISSING. */
    private static final class Sheet {
        static final int NUMBERS = 40;
        private final int[] numbers = new int[NUMBERS];
        private int bits = 0;
        private int length = 0;

        void lay(int newBits, int newLength) {
            bits = newBits;
            length = newLength;
            Arrays.fill(numbers, 0);
        }

        boolean has(int from, int n) {
            return from >= 0 && n >= 0 && from <= length && n <= length - from;
        }

        void write(int i, int v) {
            if (has(i, 1)) {
                numbers[i] = bits == 32 ? v : v & ((1 << bits) - 1);
            }
        }
    }

    /** The TOKENS of a TEXT, and the one that is read next. */
    private static final class Tokens {
        static final int END = 0;
        static final int NAME = 1;
        static final int NUMBER = 2;
        static final int BAD = 3;
        // A SIGN's kind is its byte; the KEYS' kinds lie above all bytes, in the order of KEYS.
        static final int FUN = 256;
        static final int IF = 257;
        static final int ELSE = 258;
        static final int WHILE = 259;
        static final int RETURN = 260;
        static final int PRINT = 261;
        static final int INT = 262;
        static final int BOOL = 263;
        static final int ROW = 264;
        static final int LIST = 265;
        static final int TRUE = 266;
        static final int FALSE = 267;
        static final int NO_LIST = 268;
        static final int NOT = 269;
        static final int AND = 270;
        static final int OR = 271;
        static final int NEW = 272;
        static final int LENGTH = 273;
        static final int HEAD = 274;
        static final int TAIL = 275;
        private static final String KEYS =
            "fun if else while return print int bool row list true false none not and or new size head tail ";
        private static final int KEY_COUNT = 20;
        private static final int KEY_LETTERS = 6;
        private static final int DIGITS = 5;
        private static final String SIGNS = "(){}[],;:=<+-*/";

        private final int[] kinds = new int[TAPE_BYTES + 1];
        private final int[] places = new int[TAPE_BYTES + 1];
        private final int[] values = new int[TAPE_BYTES + 1];
        private final int[] keyWords = new int[KEY_COUNT];
        private int count = 0;
        private int current = 0;
        private boolean refused = false;

        Tokens() {
            int key = 0;
            int word = 0;
            for (int i = 0; i < KEYS.length() && key < KEY_COUNT; i++) {
                if (KEYS.charAt(i) == ' ') {
                    keyWords[key] = word;
                    key++;
                    word = 0;
                } else {
                    word = joined(word, KEYS.charAt(i));
                }
            }
        }

        void scan(int[] bytes, int length) {
            count = 0;
            current = 0;
            refused = false;
            int end = Math.min(length, Math.min(bytes.length, TAPE_BYTES));
            int at = 0;
            for (int turn = 0; turn < TAPE_BYTES && at < end; turn++) {
                int b = bytes[at];
                if (isLetter(b)) {
                    at = scanWord(bytes, at, end);
                } else if (isDigit(b)) {
                    at = scanNumber(bytes, at, end);
                } else {
                    if (b != 32 && b != 10) {
                        add(SIGNS.indexOf((char) b) >= 0 ? b : BAD, at, 0);
                    }
                    at++;
                }
            }
            add(END, end, 0);
        }

        private int scanWord(int[] bytes, int from, int end) {
            int to = from;
            int word = 0;
            while (to < end && isLetter(bytes[to])) {
                word = to - from < KEY_LETTERS ? joined(word, bytes[to]) : -1;
                to++;
            }
            if (to - from == 1) {
                add(NAME, from, bytes[from] - 'a');
            } else {
                add(keyOf(word), from, 0);
            }
            return to;
        }

        private int scanNumber(int[] bytes, int from, int end) {
            int to = from;
            int number = 0;
            while (to < end && isDigit(bytes[to])) {
                number = to - from < DIGITS ? number * 10 + bytes[to] - '0' : 0;
                to++;
            }
            add(to - from > DIGITS ? BAD : NUMBER, from, number);
            return to;
        }

        private int keyOf(int word) {
            for (int k = 0; k < KEY_COUNT; k++) {
                if (keyWords[k] == word) {
                    return FUN + k;
                }
            }
            return BAD;
        }

        private void add(int kind, int place, int value) {
            if (count < kinds.length) {
                kinds[count] = kind;
                places[count] = place;
                values[count] = value;
                count++;
            }
        }

        /** BAD behind a refusal, so that all that reads on ends. */
        int kind() {
            return !refused && current < count ? kinds[current] : BAD;
        }

        int place() {
            return current < count ? places[current] : 0;
        }

        int value() {
            return current < count ? values[current] : 0;
        }

        void next() {
            if (!refused && current + 1 < count) {
                current++;
            }
        }

        /** What is read next can't stand here: it stays the next one. */
        void refuse() {
            refused = true;
        }

        void take(int kind) {
            if (kind() == kind) {
                next();
            } else {
                refuse();
            }
        }

        /** The number of a NAME's letter. */
        int takeName() {
            if (kind() != NAME) {
                refuse();
                return 0;
            }
            int letter = value();
            next();
            return letter;
        }

        int takeType() {
            int type = kind() - INT;
            if (type < TYPE_INT || type > TYPE_LIST) {
                refuse();
                return TYPE_INT;
            }
            next();
            return type;
        }

        private static boolean isLetter(int b) {
            return b >= 'a' && b <= 'z';
        }

        private static boolean isDigit(int b) {
            return b >= '0' && b <= '9';
        }

        private static int joined(int word, int letter) {
            return word * 32 + letter - 'a' + 1;
        }
    }

    /** CODE with its SHAPES and FUNS. */
    private static final class Program {
        static final int PLACES = 200;
        static final int FUNS = 5;
        static final int VARIABLES = 6;
        static final int HEAD_NUMBERS = 4;
        static final int FIRST_PLACE = 0;
        static final int PARAMS = 1;
        static final int COUNT = 2;
        static final int TYPE = 3;
        private static final long NO_WAY = 3125;

        private final int[] ops = new int[PLACES];
        private final int[] arguments = new int[PLACES];
        private final long[] shapes = new long[PLACES];
        private final boolean[] reached = new boolean[PLACES];
        private final int[] heads = new int[FUNS * HEAD_NUMBERS];
        private final int[] variableTypes = new int[FUNS * VARIABLES];
        private int places = 0;
        private int funs = 0;

        void forget() {
            places = 0;
            funs = 0;
            Arrays.fill(heads, 0);
        }

        boolean has(int place) {
            return place >= 0 && place < places && place < PLACES;
        }

        int opAt(int place) {
            return has(place) ? ops[place] : -1;
        }

        int argumentAt(int place) {
            return has(place) ? arguments[place] : 0;
        }

        long shapeAt(int place) {
            return has(place) ? shapes[place] : NO_WAY;
        }

        int head(int f, int what) {
            int i = f * HEAD_NUMBERS + what;
            return i >= 0 && i < heads.length ? heads[i] : 0;
        }

        void setHead(int f, int what, int number) {
            int i = f * HEAD_NUMBERS + what;
            if (i >= 0 && i < heads.length) {
                heads[i] = number;
            }
        }

        int variableType(int f, int v) {
            int i = f * VARIABLES + v;
            return i >= 0 && i < variableTypes.length ? variableTypes[i] : TYPE_INT;
        }

        void setVariableType(int f, int v, int type) {
            int i = f * VARIABLES + v;
            if (i >= 0 && i < variableTypes.length) {
                variableTypes[i] = type;
            }
        }

        void add(int op, int argument, long shape) {
            if (places < PLACES) {
                ops[places] = op;
                arguments[places] = argument;
                shapes[places] = shape;
            }
            places++;
        }

        void leadHere(int place) {
            if (has(place)) {
                arguments[place] = places;
            }
        }

        /** One way through is enough: what leads back leads to a place that was reached ahead of it. */
        void markWhatNoWayLeadsTo() {
            for (int place = 0; place < PLACES; place++) {
                reached[place] = false;
            }
            for (int f = 0; f < funs; f++) {
                reach(head(f, FIRST_PLACE));
            }
            for (int place = 0; place < places && place < PLACES; place++) {
                if (!reached[place]) {
                    shapes[place] = NO_WAY;
                    continue;
                }
                int op = ops[place];
                if (op == OP_BRANCH || op == OP_JUMP) {
                    reach(arguments[place]);
                }
                if (op != OP_JUMP && op != OP_RETURN) {
                    reach(place + 1);
                }
            }
        }

        private void reach(int place) {
            if (has(place)) {
                reached[place] = true;
            }
        }
    }

    /** Reads a TEXT once, and makes CODE and finds FAULTS of all KINDS on the way. */
    private static final class Reader {
        private static final int NEST = 8;
        private static final int LETTERS = 26;
        private static final int NOTHING = -1;

        private static final int LEVEL_E = 0;
        private static final int LEVEL_LESS = 3;
        private static final int LEVEL_UNDER = 6;
        // Of the OPS from OP_PAIR on: the level at which the grammar has them.
        private static final int[] LEVELS = {0, 1, 2, 3, 3, 4, 4, 5, 5};
        // Of the OPS from OP_NEGATE on: TYPES of the lower VALUE (-1: there is none), the upper, the one put.
        private static final int[] LOWER_TYPES = {-1, -1, -1, -1, -1, -1, 2, 0, 1, 1, 0, 0, 0, 0, 0, 0};
        private static final int[] UPPER_TYPES = {0, 1, 2, 3, 3, 0, 0, 3, 1, 1, 0, 0, 0, 0, 0, 0};
        private static final int[] PUT_TYPES = {0, 1, 0, 0, 3, 2, 0, 3, 1, 1, 1, 1, 0, 0, 0, 0};

        // A TAPE has no room for more: a BLOCK takes 4 bytes at least, two VALUES have a SIGN between.
        private static final int BLOCKS = 64;
        private static final int VALUES = 128;
        private static final int BLOCK_FUN = 0;
        private static final int BLOCK_IF = 1;
        private static final int BLOCK_ELSE = 2;
        private static final int BLOCK_WHILE = 3;

        private final Tokens tokens = new Tokens();
        private Program program = new Program();
        private int fun = 0;
        private int funNamePlace = 0;
        private final int[] funOfLetter = new int[LETTERS];
        private final int[] variableOfLetter = new int[LETTERS];
        private int nameFault = -1;
        private int typeFault = -1;
        // What the FUN has on the STACK at the place that comes next, and the SHAPE of each part of it.
        private int height = 0;
        private final int[] types = new int[VALUES];
        private final long[] shapes = new long[VALUES + 1];
        private int open = 0;
        private final int[] blockKinds = new int[BLOCKS];
        private final int[] blockBranches = new int[BLOCKS];
        private final int[] blockBegins = new int[BLOCKS];

        Program exchange(Program old) {
            Program made = program;
            program = old;
            return made;
        }

        int faultKind() {
            if (tokens.refused) {
                return 1;
            }
            if (nameFault >= 0) {
                return 2;
            }
            if (typeFault >= 0) {
                return 3;
            }
            return program.places > Program.PLACES ? 4 : 0;
        }

        int faultPlace(int length) {
            switch (faultKind()) {
                case 0:
                    return -1;
                case 1:
                    return tokens.place();
                case 2:
                    return nameFault;
                case 3:
                    return typeFault;
                default:
                    return length;
            }
        }

        void read(int[] bytes, int length) {
            tokens.scan(bytes, length);
            program.forget();
            nameFault = -1;
            typeFault = -1;
            Arrays.fill(funOfLetter, -1);
            for (int f = 0; f < Program.FUNS && (f == 0 || tokens.kind() == Tokens.FUN); f++) {
                beginFun(f);
                readHead();
                readBody();
                endFun();
            }
            if (program.head(fun, Program.PARAMS) > 0) {
                noteName(funNamePlace);
            }
            tokens.take(Tokens.END);
            program.markWhatNoWayLeadsTo();
        }

        private void beginFun(int f) {
            fun = f;
            program.funs = f + 1;
            program.setHead(f, Program.FIRST_PLACE, program.places);
            Arrays.fill(variableOfLetter, -1);
            height = 0;
            open = 0;
        }

        private void readHead() {
            tokens.take(Tokens.FUN);
            funNamePlace = tokens.place();
            int letter = tokens.takeName();
            if (funOf(letter) >= 0) {
                noteName(funNamePlace);
            } else if (letter >= 0 && letter < LETTERS) {
                funOfLetter[letter] = fun;
            }
            tokens.take('(');
            for (int i = 0; i < TAPE_BYTES && goesOnInBrackets(i); i++) {
                int type = tokens.takeType();
                int place = tokens.place();
                declare(tokens.takeName(), type, place);
            }
            tokens.take(')');
            program.setHead(fun, Program.PARAMS, program.head(fun, Program.COUNT));
            program.setHead(fun, Program.TYPE, tokens.takeType());
        }

        /** Whether there is an i-th one in a row of any length with commas between; takes the comma. */
        private boolean goesOnInBrackets(int i) {
            if (i == 0) {
                return tokens.kind() != ')' && tokens.kind() != Tokens.BAD;
            }
            if (tokens.kind() != ',') {
                return false;
            }
            tokens.next();
            return true;
        }

        private void endFun() {
            int type = program.head(fun, Program.TYPE);
            emit(OP_FIRST, type, 0, type);
            emit(OP_RETURN, 0, 1, NOTHING);
        }

        // ---- STATEMENTS

        /** BLOCKS in BLOCKS are kept in a row of their own, as the TEXT alone bounds how deep they go. */
        private void readBody() {
            openBlock(BLOCK_FUN, 0, 0);
            for (int i = 0; i < TAPE_BYTES && open > 0; i++) {
                switch (tokens.kind()) {
                    case '}':
                        closeBlock();
                        break;
                    case Tokens.INT:
                    case Tokens.BOOL:
                    case Tokens.ROW:
                    case Tokens.LIST:
                        readDeclaration();
                        break;
                    case Tokens.NAME:
                        readAssignment();
                        break;
                    case Tokens.IF:
                    case Tokens.WHILE:
                        readCondition();
                        break;
                    case Tokens.RETURN:
                    case Tokens.PRINT:
                        readAnswer();
                        break;
                    default:
                        tokens.refuse();
                        open = 0;
                }
            }
        }

        private void openBlock(int kind, int branch, int begin) {
            tokens.take('{');
            if (open < BLOCKS) {
                blockKinds[open] = kind;
                blockBranches[open] = branch;
                blockBegins[open] = begin;
                open++;
            }
        }

        private void closeBlock() {
            tokens.next();
            if (open < 1 || open > BLOCKS) {
                return;
            }
            open--;
            int kind = blockKinds[open];
            int branch = blockBranches[open];
            if (kind == BLOCK_FUN) {
                return;
            }
            if (kind == BLOCK_WHILE) {
                emit(OP_JUMP, blockBegins[open], 0, NOTHING);
            }
            if (kind == BLOCK_IF && tokens.kind() == Tokens.ELSE) {
                tokens.next();
                int jump = program.places;
                emit(OP_JUMP, 0, 0, NOTHING);
                openBlock(BLOCK_ELSE, jump, 0);
            }
            program.leadHere(branch);
        }

        private void readDeclaration() {
            int place = tokens.place();
            int type = tokens.takeType();
            int namePlace = tokens.place();
            int letter = tokens.takeName();
            tokens.take('=');
            readLevel(LEVEL_E, 0);
            tokens.take(';');
            declare(letter, type, namePlace);
            askType(typeFromTop(1) == type, place);
            emit(OP_STORE, variableOf(letter), 1, NOTHING);
        }

        private void readAssignment() {
            int place = tokens.place();
            int variable = variableOf(tokens.takeName());
            if (variable < 0) {
                noteName(place);
            }
            int type = program.variableType(fun, variable);
            boolean inRow = tokens.kind() == '[';
            if (inRow) {
                emit(OP_NAME, variable, 0, type);
                tokens.next();
                readLevel(LEVEL_E, 0);
                tokens.take(']');
            }
            tokens.take('=');
            readLevel(LEVEL_E, 0);
            tokens.take(';');
            if (inRow) {
                boolean fits = type == TYPE_ROW && typeFromTop(2) == TYPE_INT && typeFromTop(1) == TYPE_INT;
                askType(fits, place);
                emit(OP_STORE_IN_ROW, 0, 3, NOTHING);
            } else {
                askType(typeFromTop(1) == type, place);
                emit(OP_STORE, variable, 1, NOTHING);
            }
        }

        private void readCondition() {
            int place = tokens.place();
            int kind = tokens.kind() == Tokens.WHILE ? BLOCK_WHILE : BLOCK_IF;
            int begin = program.places;
            tokens.next();
            readLevel(LEVEL_E, 0);
            askType(typeFromTop(1) == TYPE_BOOL, place);
            int branch = program.places;
            emit(OP_BRANCH, 0, 1, NOTHING);
            openBlock(kind, branch, begin);
        }

        private void readAnswer() {
            int place = tokens.place();
            boolean returns = tokens.kind() == Tokens.RETURN;
            tokens.next();
            readLevel(LEVEL_E, 0);
            tokens.take(';');
            int type = typeFromTop(1);
            if (returns) {
                askType(type == program.head(fun, Program.TYPE), place);
                emit(OP_RETURN, 0, 1, NOTHING);
            } else {
                askType(type == TYPE_INT || type == TYPE_BOOL, place);
                emit(OP_PRINT, 0, 1, NOTHING);
            }
        }

        // ---- E

        /** E and all down to TERM; nest: how many E and UNDER this one lies in. */
        private void readLevel(int level, int nest) {
            if (level >= LEVEL_UNDER) {
                readUnder(nest);
                return;
            }
            boolean isE = level == LEVEL_E;
            if (isE && nest >= NEST) {
                tokens.refuse();
                return;
            }
            int inner = isE ? nest + 1 : nest;
            readLevel(level + 1, inner);
            int most = isE || level == LEVEL_LESS ? 1 : TAPE_BYTES;
            for (int i = 0; i < most; i++) {
                int op = opBetween(tokens.kind());
                if (op < OP_PAIR || op > OP_DIVIDE || LEVELS[op - OP_PAIR] != level) {
                    return;
                }
                int place = tokens.place();
                tokens.next();
                readLevel(isE ? LEVEL_E : level + 1, inner);
                operate(op, place);
            }
        }

        private void readUnder(int nest) {
            if (nest >= NEST) {
                tokens.refuse();
                return;
            }
            int place = tokens.place();
            int kind = tokens.kind();
            int op = opAhead(kind);
            if (op != NOTHING) {
                tokens.next();
                readUnder(nest + 1);
                operate(op, place);
                return;
            }
            if (kind == Tokens.NAME) {
                readName(nest + 1);
            } else if (kind == '(') {
                tokens.next();
                readLevel(LEVEL_E, nest + 1);
                tokens.take(')');
            } else {
                readConstant();
            }
            for (int i = 0; i < TAPE_BYTES && tokens.kind() == '['; i++) {
                int bracket = tokens.place();
                tokens.next();
                readLevel(LEVEL_E, nest + 1);
                tokens.take(']');
                operate(OP_INDEX, bracket);
            }
        }

        private void readConstant() {
            switch (tokens.kind()) {
                case Tokens.NUMBER:
                    emit(OP_NUMBER, tokens.value(), 0, TYPE_INT);
                    break;
                case Tokens.TRUE:
                    emit(OP_TRUTH, 1, 0, TYPE_BOOL);
                    break;
                case Tokens.FALSE:
                    emit(OP_TRUTH, 0, 0, TYPE_BOOL);
                    break;
                case Tokens.NO_LIST:
                    emit(OP_NONE, 0, 0, TYPE_LIST);
                    break;
                default:
                    tokens.refuse();
            }
            tokens.next();
        }

        private void readName(int nest) {
            int place = tokens.place();
            int letter = tokens.takeName();
            if (tokens.kind() != '(') {
                int variable = variableOf(letter);
                if (variable < 0) {
                    noteName(place);
                }
                emit(OP_NAME, variable, 0, program.variableType(fun, variable));
                return;
            }
            tokens.next();
            int given = 0;
            while (given < TAPE_BYTES && goesOnInBrackets(given)) {
                readLevel(LEVEL_E, nest);
                given++;
            }
            tokens.take(')');
            int called = funOf(letter);
            if (called < 0 || given != program.head(called, Program.PARAMS)) {
                noteName(place);
            }
            askType(fitsParams(called, given), place);
            emit(OP_CALL, called, given, program.head(called, Program.TYPE));
        }

        private boolean fitsParams(int called, int given) {
            for (int i = 0; i < given; i++) {
                if (typeFromTop(given - i) != program.variableType(called, i)) {
                    return false;
                }
            }
            return true;
        }

        private void operate(int op, int place) {
            int i = op - OP_NEGATE;
            if (i < 0 || i >= PUT_TYPES.length) {
                return;
            }
            int upper = typeFromTop(1);
            int lower = LOWER_TYPES[i] < 0 ? NOTHING : typeFromTop(2);
            if (op == OP_SAME) {
                askType(upper == lower && (upper == TYPE_INT || upper == TYPE_BOOL), place);
            } else {
                askType(upper == UPPER_TYPES[i] && lower == LOWER_TYPES[i], place);
            }
            emit(op, 0, lower == NOTHING ? 1 : 2, PUT_TYPES[i]);
        }

        private static int opBetween(int kind) {
            switch (kind) {
                case ':':
                    return OP_PAIR;
                case Tokens.OR:
                    return OP_OR;
                case Tokens.AND:
                    return OP_AND;
                case '<':
                    return OP_LESS;
                case '=':
                    return OP_SAME;
                case '+':
                    return OP_ADD;
                case '-':
                    return OP_SUBTRACT;
                case '*':
                    return OP_MULTIPLY;
                case '/':
                    return OP_DIVIDE;
                default:
                    return NOTHING;
            }
        }

        private static int opAhead(int kind) {
            switch (kind) {
                case '-':
                    return OP_NEGATE;
                case Tokens.NOT:
                    return OP_NOT;
                case Tokens.LENGTH:
                    return OP_SIZE;
                case Tokens.HEAD:
                    return OP_HEAD;
                case Tokens.TAIL:
                    return OP_TAIL;
                case Tokens.NEW:
                    return OP_NEW;
                default:
                    return NOTHING;
            }
        }

        // ---- names, types, places

        private int funOf(int letter) {
            return letter >= 0 && letter < LETTERS ? funOfLetter[letter] : -1;
        }

        private int variableOf(int letter) {
            return letter >= 0 && letter < LETTERS ? variableOfLetter[letter] : -1;
        }

        private void declare(int letter, int type, int place) {
            int number = program.head(fun, Program.COUNT);
            if (variableOf(letter) >= 0 || number >= Program.VARIABLES) {
                noteName(place);
                return;
            }
            if (letter >= 0 && letter < LETTERS) {
                variableOfLetter[letter] = number;
            }
            program.setVariableType(fun, number, type);
            program.setHead(fun, Program.COUNT, number + 1);
        }

        /** The first in the text counts: a CALL's NAME and the last FUN's are found behind later ones. */
        private void noteName(int place) {
            nameFault = nameFault < 0 ? place : Math.min(nameFault, place);
        }

        private void askType(boolean fits, int place) {
            if (!fits && typeFault < 0) {
                typeFault = place;
            }
        }

        private int typeFromTop(int i) {
            return i >= 1 && i <= height ? types[height - i] : NOTHING;
        }

        private void emit(int op, int argument, int taken, int type) {
            program.add(op, argument, shapes[height]);
            height = Math.max(0, height - taken);
            if (type != NOTHING && height < VALUES) {
                types[height] = type;
                shapes[height + 1] = shapes[height] * 5 + type + 1;
                height++;
            }
        }
    }

    /** THE MACHINE: all that a STEP can change stands in cells, and each change is noted for BACK. */
    private static final class Machine {
        static final int OBJECTS = 16;
        private static final int HIGHEST = 30;
        private static final int MOST_FRAMES = 8;
        private static final int MOST_PRINTED = 20;
        private static final int ROW_NUMBERS = 9;

        private static final int DONE = 1;
        private static final int BY_ZERO = 2;
        private static final int NO_SUCH_PLACE = 3;
        private static final int OF_NOTHING = 4;
        private static final int NO_SUCH_SIZE = 5;
        private static final int HEAP_FULL = 6;
        private static final int TOO_DEEP = 7;
        private static final int PRINTED_FULL = 8;

        static final int HALT = 0;
        static final int STEPS = 1;
        static final int CLEARINGS = 2;
        static final int HEIGHT = 3;
        static final int FRAMES = 4;
        static final int PRINTS = 5;
        static final int RESULT = 6;
        static final int VALUES = 7;
        static final int TYPES = VALUES + HIGHEST;
        static final int PRINTED = TYPES + HIGHEST;
        // A FRAME: its FUN, its place, its variables.
        private static final int FIRST_FRAME = PRINTED + MOST_PRINTED;
        private static final int FRAME_CELLS = 2 + Program.VARIABLES;
        // An OBJECT: what it is; a row's size, or a PAIR's int; a row's numbers, or a PAIR's list.
        private static final int FIRST_OBJECT = FIRST_FRAME + MOST_FRAMES * FRAME_CELLS;
        private static final int OBJECT_CELLS = 2 + ROW_NUMBERS;
        private static final int CELLS = FIRST_OBJECT + OBJECTS * OBJECT_CELLS;

        private static final int FREE = 0;
        private static final int A_ROW = 1;
        private static final int A_PAIR = 2;

        // A power of two above STEPS_BACK: the STEP that is tried needs room of its own, as it may fail.
        private static final int SLOTS = 32;
        // No STEP changes more cells than new behind a CLEARING: OBJECTS, one OBJECT and a few.
        private static final int NOTES = 36;

        private Program program;
        private final int[] cells = new int[CELLS];
        private final int[] saved = new int[CELLS];
        private final int[] noted = new int[SLOTS];
        private final int[] notedCells = new int[SLOTS * NOTES];
        private final int[] notedNumbers = new int[SLOTS * NOTES];
        private final int[] proofs = new int[SLOTS * PROOF_NUMBERS];
        private int slot = 0;
        private int kept = 0;

        Machine(Program first) {
            program = first;
        }

        void begin(Program begunProgram) {
            program = begunProgram;
            Arrays.fill(cells, 0);
            kept = 0;
            int main = program.funs - 1;
            cells[FRAMES] = 1;
            cells[FIRST_FRAME] = main;
            cells[FIRST_FRAME + 1] = program.head(main, Program.FIRST_PLACE);
        }

        int read(int cell) {
            return cell >= 0 && cell < CELLS ? cells[cell] : 0;
        }

        private void write(int cell, int number) {
            if (cell < 0 || cell >= CELLS) {
                return;
            }
            int count = noted[slot & (SLOTS - 1)];
            if (count >= 0 && count < NOTES) {
                int note = (slot & (SLOTS - 1)) * NOTES + count;
                notedCells[note] = cell;
                notedNumbers[note] = cells[cell];
                noted[slot & (SLOTS - 1)] = count + 1;
            }
            cells[cell] = number;
        }

        // ---- STEPS, BACK

        /** One STEP, which is noted but not kept yet; whether it could be done. */
        boolean attempt() {
            if (isHalted()) {
                return false;
            }
            noted[slot & (SLOTS - 1)] = 0;
            // A later STEP that HALTS may CLEAR and is not kept itself: BACK over this one undoes that count.
            write(CLEARINGS, cells[CLEARINGS]);
            int before = cells[HEIGHT];
            int at = place();
            int op = program.opAt(at);
            if (needsObject(op) && leastFree() == 0) {
                clearHeap();
            }
            int halt = perform(op, program.argumentAt(at));
            if (halt != 0) {
                cells[HALT] = halt;
                return false;
            }
            write(STEPS, cells[STEPS] + 1);
            int behind = cells[HEIGHT];
            int proof = (slot & (SLOTS - 1)) * PROOF_NUMBERS;
            proofs[proof] = at;
            proofs[proof + 1] = before;
            proofs[proof + 2] = behind;
            proofs[proof + 3] = behind > 0 ? fromTop(1) : 0;
            return true;
        }

        void keep() {
            slot = (slot + 1) & (SLOTS - 1);
            kept = Math.min(kept + 1, STEPS_BACK);
        }

        void undo() {
            if (kept == 0) {
                return;
            }
            kept--;
            slot = (slot + SLOTS - 1) & (SLOTS - 1);
            for (int i = Math.min(noted[slot], NOTES) - 1; i >= 0; i--) {
                int note = slot * NOTES + i;
                int cell = notedCells[note];
                if (cell >= 0 && cell < CELLS) {
                    cells[cell] = notedNumbers[note];
                }
            }
            cells[HALT] = 0;
        }

        /** Of the i-th latest STEP that is kept, from 1 on; 0 is the one that was tried last. */
        int proofNumber(int i, int k) {
            int number = ((slot - i) & (SLOTS - 1)) * PROOF_NUMBERS + k;
            return number >= 0 && number < proofs.length ? proofs[number] : 0;
        }

        void save() {
            System.arraycopy(cells, 0, saved, 0, CELLS);
        }

        void restore() {
            System.arraycopy(saved, 0, cells, 0, CELLS);
        }

        // ---- what there is

        boolean isHalted() {
            return cells[HALT] != 0;
        }

        boolean isDone() {
            return cells[HALT] == DONE;
        }

        int place() {
            return read(frameCell(cells[FRAMES] - 1) + 1);
        }

        int variablesOf(int f) {
            return program.head(read(frameCell(f)), Program.COUNT);
        }

        int variableOf(int f, int v) {
            return read(frameCell(f) + 2 + v);
        }

        private int variableType(int f, int v) {
            return program.variableType(read(frameCell(f)), v);
        }

        boolean objectHas(int o, int what) {
            int is = read(objectCell(o));
            if (what == 0) {
                return true;
            }
            if (is == A_ROW) {
                return what == 1 || what >= 10 && what - 10 < read(objectCell(o) + 1);
            }
            return is == A_PAIR && (what == 1 || what == 2);
        }

        int objectNumber(int o, int what) {
            return read(objectCell(o) + (what >= 10 ? what - 8 : what));
        }

        int objectsInUse() {
            int count = 0;
            for (int o = 1; o <= OBJECTS; o++) {
                if (read(objectCell(o)) != FREE) {
                    count++;
                }
            }
            return count;
        }

        private static int frameCell(int f) {
            return FIRST_FRAME + f * FRAME_CELLS;
        }

        private static int objectCell(int o) {
            return FIRST_OBJECT + (o - 1) * OBJECT_CELLS;
        }

        private int fromTop(int i) {
            return read(VALUES + cells[HEIGHT] - i);
        }

        // ---- OPS: each answers by what it HALTS, and then has changed nothing, or 0

        private int perform(int op, int argument) {
            switch (op) {
                case OP_NUMBER:
                case OP_TRUTH:
                case OP_NONE:
                case OP_NAME:
                case OP_FIRST:
                    return putOne(op, argument);
                case OP_CALL:
                    return enter(argument);
                case OP_NEW:
                    return makeRow();
                case OP_PAIR:
                    return makePair();
                case OP_INDEX:
                    return index();
                case OP_STORE:
                    write(frameCell(cells[FRAMES] - 1) + 2 + argument, fromTop(1));
                    return drop(1);
                case OP_STORE_IN_ROW:
                    return storeInRow();
                case OP_BRANCH:
                    return branch(argument);
                case OP_JUMP:
                    return goTo(argument);
                case OP_RETURN:
                    return leave();
                case OP_PRINT:
                    return print();
                default:
                    return op <= OP_TAIL ? ofOne(op) : ofTwo(op);
            }
        }

        private int goTo(int place) {
            write(frameCell(cells[FRAMES] - 1) + 1, place);
            return 0;
        }

        private int drop(int taken) {
            write(HEIGHT, cells[HEIGHT] - taken);
            return goTo(place() + 1);
        }

        private int replace(int taken, int value, int type) {
            int at = cells[HEIGHT] - taken;
            write(VALUES + at, value);
            write(TYPES + at, type);
            write(HEIGHT, at + 1);
            return goTo(place() + 1);
        }

        private int putOne(int op, int argument) {
            if (cells[HEIGHT] >= HIGHEST) {
                return TOO_DEEP;
            }
            int frame = cells[FRAMES] - 1;
            switch (op) {
                case OP_NUMBER:
                    return replace(0, argument, TYPE_INT);
                case OP_TRUTH:
                    return replace(0, argument, TYPE_BOOL);
                case OP_NONE:
                    return replace(0, 0, TYPE_LIST);
                case OP_NAME:
                    return replace(0, variableOf(frame, argument), variableType(frame, argument));
                default:
                    return replace(0, 0, argument);
            }
        }

        private int enter(int called) {
            int frames = cells[FRAMES];
            if (frames >= MOST_FRAMES) {
                return TOO_DEEP;
            }
            int params = program.head(called, Program.PARAMS);
            drop(params);
            int frame = frameCell(frames);
            write(frame, called);
            write(frame + 1, program.head(called, Program.FIRST_PLACE));
            for (int v = 0; v < program.head(called, Program.COUNT); v++) {
                write(frame + 2 + v, v < params ? read(VALUES + cells[HEIGHT] + v) : 0);
            }
            write(FRAMES, frames + 1);
            return 0;
        }

        private int leave() {
            write(FRAMES, cells[FRAMES] - 1);
            if (cells[FRAMES] == 0) {
                write(RESULT, fromTop(1));
                write(HEIGHT, cells[HEIGHT] - 1);
                write(HALT, DONE);
            }
            return 0;
        }

        private int branch(int place) {
            boolean goesOn = fromTop(1) != 0;
            drop(1);
            return goesOn ? 0 : goTo(place);
        }

        private int print() {
            int count = cells[PRINTS];
            if (count >= MOST_PRINTED) {
                return PRINTED_FULL;
            }
            write(PRINTED + count, fromTop(1));
            write(PRINTS, count + 1);
            return drop(1);
        }

        private int ofOne(int op) {
            int value = fromTop(1);
            if (op == OP_NEGATE) {
                return replace(1, -value, TYPE_INT);
            }
            if (op == OP_NOT) {
                return replace(1, 1 - value, TYPE_BOOL);
            }
            if (value == 0) {
                return OF_NOTHING;
            }
            if (op == OP_TAIL) {
                return replace(1, read(objectCell(value) + 2), TYPE_LIST);
            }
            return replace(1, read(objectCell(value) + 1), TYPE_INT);
        }

        private int ofTwo(int op) {
            int lower = fromTop(2);
            int upper = fromTop(1);
            switch (op) {
                case OP_OR:
                    return replace(2, lower | upper, TYPE_BOOL);
                case OP_AND:
                    return replace(2, lower & upper, TYPE_BOOL);
                case OP_LESS:
                    return replace(2, lower < upper ? 1 : 0, TYPE_BOOL);
                case OP_SAME:
                    return replace(2, lower == upper ? 1 : 0, TYPE_BOOL);
                case OP_ADD:
                    return replace(2, lower + upper, TYPE_INT);
                case OP_SUBTRACT:
                    return replace(2, lower - upper, TYPE_INT);
                case OP_MULTIPLY:
                    return replace(2, lower * upper, TYPE_INT);
                default:
                    if (upper == 0) {
                        return BY_ZERO;
                    }
                    return replace(2, upper == -1 ? -lower : lower / upper, TYPE_INT);
            }
        }

        private int index() {
            int row = fromTop(2);
            int i = fromTop(1);
            int halt = noSuchNumber(row, i);
            return halt != 0 ? halt : replace(2, read(objectCell(row) + 2 + i), TYPE_INT);
        }

        private int storeInRow() {
            int row = fromTop(3);
            int i = fromTop(2);
            int halt = noSuchNumber(row, i);
            if (halt != 0) {
                return halt;
            }
            write(objectCell(row) + 2 + i, fromTop(1));
            return drop(3);
        }

        private int noSuchNumber(int row, int i) {
            if (row == 0) {
                return OF_NOTHING;
            }
            return i < 0 || i >= read(objectCell(row) + 1) ? NO_SUCH_PLACE : 0;
        }

        // ---- THE HEAP

        private int makeRow() {
            int size = fromTop(1);
            if (!isRowSize(size)) {
                return NO_SUCH_SIZE;
            }
            int o = leastFree();
            if (o == 0) {
                return HEAP_FULL;
            }
            write(objectCell(o), A_ROW);
            write(objectCell(o) + 1, size);
            for (int i = 0; i < size; i++) {
                write(objectCell(o) + 2 + i, 0);
            }
            return replace(1, o, TYPE_ROW);
        }

        private int makePair() {
            int o = leastFree();
            if (o == 0) {
                return HEAP_FULL;
            }
            write(objectCell(o), A_PAIR);
            write(objectCell(o) + 1, fromTop(2));
            write(objectCell(o) + 2, fromTop(1));
            return replace(2, o, TYPE_LIST);
        }

        private boolean needsObject(int op) {
            return op == OP_PAIR || op == OP_NEW && isRowSize(fromTop(1));
        }

        private static boolean isRowSize(int size) {
            return size >= 0 && size <= ROW_NUMBERS;
        }

        private int leastFree() {
            for (int o = 1; o <= OBJECTS; o++) {
                if (cells[objectCell(o)] == FREE) {
                    return o;
                }
            }
            return 0;
        }

        int clearByHand() {
            kept = 0;
            return clearHeap();
        }

        private int clearHeap() {
            int held = held();
            int freed = 0;
            for (int o = 1; o <= OBJECTS; o++) {
                if ((held >> o & 1) == 0 && cells[objectCell(o)] != FREE) {
                    write(objectCell(o), FREE);
                    freed++;
                }
            }
            write(CLEARINGS, cells[CLEARINGS] + 1);
            return freed;
        }

        /** The OBJECTS that are held, as bits 1 to 16. */
        private int held() {
            int bits = 0;
            for (int i = 0; i < cells[HEIGHT]; i++) {
                if (read(TYPES + i) >= TYPE_ROW) {
                    bits |= chain(read(VALUES + i));
                }
            }
            for (int f = 0; f < cells[FRAMES]; f++) {
                for (int v = 0; v < variablesOf(f); v++) {
                    if (variableType(f, v) >= TYPE_ROW) {
                        bits |= chain(variableOf(f, v));
                    }
                }
            }
            return bits;
        }

        /** An OBJECT and, of a PAIR, all behind it: no list can be longer than there are OBJECTS. */
        private int chain(int first) {
            int bits = 0;
            int o = first;
            for (int i = 0; i < OBJECTS && o >= 1 && o <= OBJECTS; i++) {
                bits |= 1 << o;
                o = cells[objectCell(o)] == A_PAIR ? cells[objectCell(o) + 2] : 0;
            }
            return bits;
        }
    }
}
