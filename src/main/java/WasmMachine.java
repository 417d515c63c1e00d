import java.util.Arrays;

/**
 * Reads WebAssembly modules that use 32 bit integers alone, validates them, and runs their functions: on the stack of
 * operands, as they are read, or by register code that is made of them; both do the same, instruction for instruction.
 */
public final class WasmMachine {
    private static final int MOST_BYTES = 240;
    private static final int MOST_TYPES = 8;
    private static final int MOST_VALUES = 4;
    private static final int MOST_FUNCTIONS = 8;
    private static final int MOST_MEMORIES = 1;
    private static final int MOST_GLOBALS = 4;
    private static final int MOST_EXPORTS = 8;
    private static final int MOST_DATA = 4;
    private static final int MOST_LETTERS = 8;
    private static final int MOST_PLACES = 8;
    private static final int MOST_BLOCKS = 10;
    private static final int MOST_LOCALS = 12;
    private static final int MOST_OPERANDS = 16;
    private static final int MOST_CALLS = 8;
    private static final int MOST_PAGES = 4;
    private static final int MOST_FUEL = 100000;
    private static final int PAGE = 64;

    private static final int MALFORMED = 1;
    private static final int UNSUPPORTED = 2;
    private static final int INVALID = 3;
    private static final int DATA_OUTSIDE = 4;
    private static final int NOT_COLLECTING = 5;

    private static final int STILL_RUNS = 0;
    private static final int DONE = 1;
    private static final int TRAP_UNREACHABLE = 2;
    private static final int TRAP_ZERO_DIVISOR = 3;
    private static final int TRAP_OVERFLOW = 4;
    private static final int TRAP_OUTSIDE_MEMORY = 5;
    private static final int TRAP_CALLS = 6;

    private static final int NO_ENGINE = -1;
    private static final int STACK_ENGINE = 0;
    private static final int REGISTER_ENGINE = 1;

    private static final int I32 = 127;
    private static final int NO_VALUE = 64;

    /** Columns of a type. */
    private static final int PARAMETERS = 0;
    private static final int RESULTS = 1;

    /** Columns of a function: its first and last instruction are rows of the code. */
    private static final int TYPE = 0;
    private static final int LOCALS = 1;
    private static final int BODY = 2;
    private static final int LAST = 3;

    /** Columns of a global. */
    private static final int CHANGES = 0;
    private static final int VALUE = 1;

    /** Columns of an export: its letters begin at LETTERS. */
    private static final int KIND = 0;
    private static final int INDEX = 1;
    private static final int LENGTH = 2;
    private static final int LETTERS = 3;

    /** Columns of data: its bytes stand in the module from FROM on. */
    private static final int MEMORY = 0;
    private static final int PLACE = 1;
    private static final int FROM = 2;
    private static final int SIZE = 3;

    /**
     * Columns of an instruction. MATE leads a block to its end, an if to its else (or end) and an else to its end;
     * HEIGHT and ALIVE (the operands before it, and whether it can be come to) are left by the validation, ENTRY (the
     * register code's entry that stands there, or would stand there) by the making of register code.
     */
    private static final int OP = 0;
    private static final int FIRST = 1;
    private static final int SECOND = 2;
    private static final int MATE = 3;
    private static final int HEIGHT = 4;
    private static final int ALIVE = 5;
    private static final int ENTRY = 6;

    private final Contents contents = new Contents();
    private final Reader reader = new Reader(contents);
    private final Validator validator = new Validator(contents);
    private final RegisterCode registerCode = new RegisterCode(contents);
    private final Store store = new Store();
    private final Engine stackEngine = new StackEngine(store, contents);
    private final Engine registerEngine = new RegisterEngine(store, registerCode);
    private final Row arguments = new Row(MOST_VALUES);
    private int argumentCount;
    private boolean loaded;
    private boolean compiled;
    private int active = NO_ENGINE;
    private int returned;

    public WasmMachine() {
    }

    public boolean feed(int byteVal) {
        return !loaded && reader.append(byteVal);
    }

    public int load() {
        if (loaded) {
            return NOT_COLLECTING;
        }
        int fault = reader.readModule();
        if (fault == 0) {
            fault = validator.judge();
        }
        if (fault == 0) {
            store.prepare(contents, reader);
            loaded = true;
        }
        return fault;
    }

    public int compile() {
        if (!loaded) {
            return 1;
        }
        if (!compiled) {
            registerCode.make();
            compiled = true;
        }
        return 0;
    }

    public boolean arg(int v) {
        if (!loaded || active != NO_ENGINE || argumentCount >= MOST_VALUES) {
            return false;
        }
        arguments.set(argumentCount, v);
        argumentCount++;
        return true;
    }

    public int start(int funcIdx, int engine) {
        if (!loaded || active != NO_ENGINE) {
            return 1;
        }
        if (!contents.functions.has(funcIdx)) {
            return 2;
        }
        if (argumentCount != contents.parametersOf(funcIdx)) {
            return 3;
        }
        if (engine != STACK_ENGINE && (engine != REGISTER_ENGINE || !compiled)) {
            return 4;
        }
        active = engine;
        returned = 0;
        activeEngine().begin(funcIdx, arguments, argumentCount);
        argumentCount = 0;
        return 0;
    }

    public int run(int fuel) {
        if (fuel < 0 || active == NO_ENGINE) {
            return -1;
        }
        Engine engine = activeEngine();
        int outcome = engine.go(fuel);
        if (outcome != STILL_RUNS) {
            active = NO_ENGINE;
            returned = outcome == DONE ? engine.value : 0;
        }
        return outcome;
    }

    public int result() {
        return returned;
    }

    public int peekMem(int addr) {
        if (!loaded || addr < 0 || addr >= store.pages * PAGE) {
            return -1;
        }
        return store.memory.get(addr);
    }

    public int rcodeLen() {
        return compiled ? registerCode.length() : 0;
    }

    public int rcode(int i) {
        if (i < 0 || i >= rcodeLen()) {
            return -1;
        }
        return registerCode.words.get(i);
    }

    public void reset() {
        reader.forget();
        argumentCount = 0;
        loaded = false;
        compiled = false;
        active = NO_ENGINE;
        returned = 0;
    }

    private Engine activeEngine() {
        return active == REGISTER_ENGINE ? registerEngine : stackEngine;
    }

    /** Whether a number without sign is above a most that has none either. */
    private static boolean isAbove(int number, int most) {
        return number < 0 || number > most;
    }

    /** Numbers that may be asked for at any place: where there is none, 0 is answered and nothing is kept. */
    private static final class Row {
        private final int[] cells;

        Row(int length) {
            cells = new int[Math.max(length, 0)];
        }

        int get(int at) {
            return at >= 0 && at < cells.length ? cells[at] : 0;
        }

        void set(int at, int number) {
            if (at >= 0 && at < cells.length) {
                cells[at] = number;
            }
        }

        void clear() {
            Arrays.fill(cells, 0);
        }
    }

    /** Rows of a few columns each, as safe to ask as a Row; the first of them are in use. */
    private static final class Table {
        private final int[] cells;
        private final int height;
        private final int width;
        private int count;

        Table(int rows, int columns) {
            cells = new int[Math.max(rows * columns, 0)];
            height = rows;
            width = columns;
        }

        int count() {
            return count;
        }

        boolean has(int row) {
            return row >= 0 && row < count;
        }

        /** A further row in use, all 0. */
        int add() {
            count++;
            return count - 1;
        }

        int get(int row, int column) {
            if (row < 0 || row >= height || column < 0 || column >= width) {
                return 0;
            }
            int at = row * width + column;
            return at >= 0 && at < cells.length ? cells[at] : 0;
        }

        void set(int row, int column, int number) {
            if (row < 0 || row >= height || column < 0 || column >= width) {
                return;
            }
            int at = row * width + column;
            if (at >= 0 && at < cells.length) {
                cells[at] = number;
            }
        }

        void clear() {
            Arrays.fill(cells, 0);
            count = 0;
        }
    }

    /** What the instructions are, how many operands they take and give, and what those over numbers alone answer. */
    private static final class Op {
        static final int UNREACHABLE = 0;
        static final int NOP = 1;
        static final int BLOCK = 2;
        static final int LOOP = 3;
        static final int IF = 4;
        static final int ELSE = 5;
        static final int END = 11;
        static final int BR = 12;
        static final int BR_IF = 13;
        static final int BR_TABLE = 14;
        static final int RETURN = 15;
        static final int CALL = 16;
        static final int DROP = 26;
        static final int SELECT = 27;
        static final int LOCAL_GET = 32;
        static final int LOCAL_SET = 33;
        static final int LOCAL_TEE = 34;
        static final int GLOBAL_GET = 35;
        static final int GLOBAL_SET = 36;
        static final int LOAD = 40;
        static final int LOAD8_S = 44;
        static final int LOAD8_U = 45;
        static final int LOAD16_S = 46;
        static final int LOAD16_U = 47;
        static final int STORE = 54;
        static final int STORE8 = 58;
        static final int STORE16 = 59;
        static final int MEMORY_SIZE = 63;
        static final int MEMORY_GROW = 64;
        static final int CONST = 65;
        static final int EQZ = 69;
        static final int EQ = 70;
        static final int NE = 71;
        static final int LT_S = 72;
        static final int LT_U = 73;
        static final int GT_S = 74;
        static final int GT_U = 75;
        static final int LE_S = 76;
        static final int LE_U = 77;
        static final int GE_S = 78;
        static final int GE_U = 79;
        static final int CLZ = 103;
        static final int CTZ = 104;
        static final int POPCNT = 105;
        static final int ADD = 106;
        static final int SUB = 107;
        static final int MUL = 108;
        static final int DIV_S = 109;
        static final int DIV_U = 110;
        static final int REM_S = 111;
        static final int REM_U = 112;
        static final int AND = 113;
        static final int OR = 114;
        static final int XOR = 115;
        static final int SHL = 116;
        static final int SHR_S = 117;
        static final int SHR_U = 118;
        static final int ROTL = 119;
        static final int ROTR = 120;

        private static final int LEAST = -2147483648;
        static final long WITHOUT_SIGN = 0xFFFFFFFFL;

        static boolean isKnown(int op) {
            return isControl(op) || op == DROP || op == SELECT || op >= LOCAL_GET && op <= GLOBAL_SET || isAccess(op)
                || op >= MEMORY_SIZE && op <= CONST || isNumeric(op);
        }

        static boolean isControl(int op) {
            return op >= UNREACHABLE && op <= ELSE || op >= END && op <= CALL;
        }

        static boolean isAccess(int op) {
            return op == LOAD || op >= LOAD8_S && op <= LOAD16_U || isStore(op);
        }

        static boolean isStore(int op) {
            return op == STORE || op == STORE8 || op == STORE16;
        }

        static boolean isNumeric(int op) {
            return op >= EQZ && op <= GE_U || op >= CLZ && op <= ROTR;
        }

        static boolean opensBlock(int op) {
            return op == BLOCK || op == LOOP || op == IF;
        }

        /** How many bytes an access reaches. */
        static int width(int op) {
            if (op == LOAD || op == STORE) {
                return 4;
            }
            return op == LOAD16_S || op == LOAD16_U || op == STORE16 ? 2 : 1;
        }

        /** How many operands an instruction takes that is not of control. */
        static int takes(int op) {
            switch (op) {
                case LOCAL_GET:
                case GLOBAL_GET:
                case MEMORY_SIZE:
                case CONST:
                    return 0;
                case DROP:
                case LOCAL_SET:
                case LOCAL_TEE:
                case GLOBAL_SET:
                case MEMORY_GROW:
                case EQZ:
                case CLZ:
                case CTZ:
                case POPCNT:
                    return 1;
                case SELECT:
                    return 3;
                default:
                    return isAccess(op) && !isStore(op) ? 1 : 2;
            }
        }

        /** How many operands an instruction gives that is not of control. */
        static int gives(int op) {
            return op == DROP || op == LOCAL_SET || op == GLOBAL_SET || isStore(op) ? 0 : 1;
        }

        static int ofOne(int op, int a) {
            switch (op) {
                case EQZ:
                    return a == 0 ? 1 : 0;
                case CLZ:
                    return Integer.numberOfLeadingZeros(a);
                case CTZ:
                    return Integer.numberOfTrailingZeros(a);
                default:
                    return Integer.bitCount(a);
            }
        }

        static int ofTwo(int op, int a, int b) {
            if (op >= EQ && op <= GE_U) {
                return isTrue(op, a, b) ? 1 : 0;
            }
            switch (op) {
                case ADD:
                    return a + b;
                case SUB:
                    return a - b;
                case MUL:
                    return a * b;
                case AND:
                    return a & b;
                case OR:
                    return a | b;
                case XOR:
                    return a ^ b;
                case SHL:
                    return a << b;
                case SHR_S:
                    return a >> b;
                case SHR_U:
                    return a >>> b;
                case ROTL:
                    return a << b | a >>> -b;
                case ROTR:
                    return a >>> b | a << -b;
                default:
                    return divided(op, a, b);
            }
        }

        /** The trap of an instruction with two operands, or 0. */
        static int trapOf(int op, int a, int b) {
            if (op < DIV_S || op > REM_U) {
                return 0;
            }
            if (b == 0) {
                return TRAP_ZERO_DIVISOR;
            }
            return op == DIV_S && a == LEAST && b == -1 ? TRAP_OVERFLOW : 0;
        }

        private static boolean isTrue(int op, int a, int b) {
            long c = a & WITHOUT_SIGN;
            long d = b & WITHOUT_SIGN;
            switch (op) {
                case EQ:
                    return a == b;
                case NE:
                    return a != b;
                case LT_S:
                    return a < b;
                case LT_U:
                    return c < d;
                case GT_S:
                    return a > b;
                case GT_U:
                    return c > d;
                case LE_S:
                    return a <= b;
                case LE_U:
                    return c <= d;
                case GE_S:
                    return a >= b;
                default:
                    return c >= d;
            }
        }

        private static int divided(int op, int a, int b) {
            boolean withSign = op == DIV_S || op == REM_S;
            long dividend = withSign ? a : a & WITHOUT_SIGN;
            long divisor = withSign ? b : b & WITHOUT_SIGN;
            if (divisor == 0) {
                return 0;
            }
            return (int) (op == DIV_S || op == DIV_U ? dividend / divisor : dividend % divisor);
        }
    }

    /** What a module says, in tables that each loading fills anew. */
    private static final class Contents {
        final Table types = new Table(MOST_TYPES, 2);
        final Table functions = new Table(MOST_FUNCTIONS, 4);
        final Table globals = new Table(MOST_GLOBALS, 2);
        final Table exports = new Table(MOST_EXPORTS, LETTERS + MOST_LETTERS);
        final Table data = new Table(MOST_DATA, 4);
        final Table code = new Table(MOST_BYTES, 7);
        /** The labels of all br_tables, one behind the other. */
        final Table places = new Table(MOST_BYTES, 1);
        boolean hasMemory;
        int firstPages;
        int mostPages;

        void clear() {
            types.clear();
            functions.clear();
            globals.clear();
            exports.clear();
            data.clear();
            code.clear();
            places.clear();
            hasMemory = false;
            firstPages = 0;
            mostPages = 0;
        }

        int parametersOf(int function) {
            int type = functions.get(function, TYPE);
            return types.has(type) ? types.get(type, PARAMETERS) : 0;
        }

        int resultsOf(int function) {
            int type = functions.get(function, TYPE);
            return types.has(type) ? types.get(type, RESULTS) : 0;
        }

        /** How many results go to the label of a block: to a loop's none, it is at its beginning. */
        int labelResults(int block) {
            return code.get(block, OP) != Op.LOOP && code.get(block, FIRST) == I32 ? 1 : 0;
        }

        int blockResults(int block) {
            return code.get(block, FIRST) == I32 ? 1 : 0;
        }

        int endOf(int block) {
            int mate = code.get(block, MATE);
            return code.get(mate, OP) == Op.ELSE ? code.get(mate, MATE) : mate;
        }

        /** The instruction behind an if whose operand is 0. */
        int otherwiseOf(int block) {
            int mate = code.get(block, MATE);
            return code.get(mate, OP) == Op.ELSE ? mate + 1 : mate;
        }

        /** Which label a br_table takes: the last one, if there is no such place. */
        int labelAt(int table, int index) {
            int most = code.get(table, FIRST);
            int place = isAbove(index, most) ? most : index;
            return places.get(code.get(table, SECOND) + place, 0);
        }
    }

    /** Takes the bytes and reads them into the contents; the first fault stays, and nothing is read behind it. */
    private static final class Reader {
        private static final int TYPES = 1;
        private static final int FUNCTIONS = 3;
        private static final int MEMORIES = 5;
        private static final int GLOBALS = 6;
        private static final int EXPORTS = 7;
        private static final int BODIES = 10;
        private static final int DATA = 11;
        private static final int LAST_SECTION = 11;
        private static final int MOST_ITEMS = 8;
        private static final int NUMBER_BYTES = 5;
        private static final int[] HEADER = {0, 97, 115, 109, 1, 0, 0, 0};

        private final Contents contents;
        private final int[] bytes = new int[MOST_BYTES];
        /** The blocks that are open in a body; the body itself is the first of them. */
        private final Row open = new Row(MOST_BLOCKS + 1);
        private int openCount;
        private int fed;
        private int place;
        private int bound;
        private int bodies;
        private int fault;

        Reader(Contents contents) {
            this.contents = contents;
        }

        boolean append(int number) {
            if (number < 0 || number > 255 || fed < 0 || fed >= bytes.length) {
                return false;
            }
            bytes[fed] = number;
            fed++;
            return true;
        }

        void forget() {
            fed = 0;
        }

        int byteAt(int at) {
            return at >= 0 && at < bytes.length ? bytes[at] : 0;
        }

        int readModule() {
            contents.clear();
            place = 0;
            bound = fed;
            bodies = 0;
            fault = 0;
            for (int i = 0; i < HEADER.length; i++) {
                expect(HEADER[i]);
            }
            int before = -1;
            for (int n = 0; n <= LAST_SECTION && fault == 0 && place < fed; n++) {
                int section = nextByte();
                judgeSection(section, before);
                readSection(section);
                before = section;
            }
            if (bodies != contents.functions.count()) {
                refuse(MALFORMED);
            }
            return fault;
        }

        private void judgeSection(int section, int before) {
            if (section > LAST_SECTION || section <= before) {
                refuse(MALFORMED);
            } else if (mostOf(section) == 0) {
                refuse(UNSUPPORTED);
            }
        }

        /** How many things a section may hold; 0 of one that is not supported. */
        private static int mostOf(int section) {
            switch (section) {
                case TYPES:
                    return MOST_TYPES;
                case FUNCTIONS:
                case BODIES:
                    return MOST_FUNCTIONS;
                case MEMORIES:
                    return MOST_MEMORIES;
                case GLOBALS:
                    return MOST_GLOBALS;
                case EXPORTS:
                    return MOST_EXPORTS;
                case DATA:
                    return MOST_DATA;
                default:
                    return 0;
            }
        }

        private void readSection(int section) {
            bound = nextEnd();
            int count = nextUnsigned();
            if (section == BODIES && count != contents.functions.count()) {
                refuse(MALFORMED);
            }
            if (isAbove(count, mostOf(section))) {
                refuse(UNSUPPORTED);
            }
            for (int i = 0; i < MOST_ITEMS && i < count && fault == 0; i++) {
                switch (section) {
                    case TYPES:
                        readType();
                        break;
                    case FUNCTIONS:
                        contents.functions.set(contents.functions.add(), TYPE, nextUnsigned());
                        break;
                    case MEMORIES:
                        readMemory();
                        break;
                    case GLOBALS:
                        readGlobal();
                        break;
                    case EXPORTS:
                        readExport();
                        break;
                    case BODIES:
                        readBody(i);
                        break;
                    default:
                        readData();
                        break;
                }
            }
            if (place != bound) {
                refuse(MALFORMED);
            }
            bound = fed;
        }

        private void readType() {
            expect(96);
            int row = contents.types.add();
            contents.types.set(row, PARAMETERS, readValueTypes());
            contents.types.set(row, RESULTS, readValueTypes());
        }

        private int readValueTypes() {
            int count = nextUnsigned();
            if (isAbove(count, MOST_VALUES)) {
                refuse(UNSUPPORTED);
            }
            for (int i = 0; i < MOST_VALUES && i < count && fault == 0; i++) {
                readValueType();
            }
            return count;
        }

        private void readValueType() {
            if (nextByte() != I32) {
                refuse(UNSUPPORTED);
            }
        }

        private void readMemory() {
            int hasMost = nextUpTo(1);
            int first = nextUnsigned();
            if (isAbove(first, MOST_PAGES)) {
                refuse(UNSUPPORTED);
            }
            int most = hasMost == 1 ? nextUnsigned() : MOST_PAGES;
            contents.hasMemory = true;
            contents.firstPages = first;
            contents.mostPages = isAbove(most, MOST_PAGES) ? MOST_PAGES : most;
        }

        private void readGlobal() {
            readValueType();
            int row = contents.globals.add();
            contents.globals.set(row, CHANGES, nextUpTo(1));
            contents.globals.set(row, VALUE, readConstant());
        }

        private int readConstant() {
            expect(Op.CONST);
            int number = nextSigned();
            expect(Op.END);
            return number;
        }

        private void readExport() {
            int row = contents.exports.add();
            int length = nextUnsigned();
            if (isAbove(length, MOST_LETTERS)) {
                refuse(UNSUPPORTED);
            }
            contents.exports.set(row, LENGTH, length);
            for (int i = 0; i < MOST_LETTERS && i < length && fault == 0; i++) {
                int letter = nextByte();
                if (letter > 127) {
                    refuse(UNSUPPORTED);
                }
                contents.exports.set(row, LETTERS + i, letter);
            }
            contents.exports.set(row, KIND, nextUpTo(3));
            contents.exports.set(row, INDEX, nextUnsigned());
        }

        private void readData() {
            int row = contents.data.add();
            contents.data.set(row, MEMORY, nextUnsigned());
            contents.data.set(row, PLACE, readConstant());
            int end = nextEnd();
            contents.data.set(row, FROM, place);
            contents.data.set(row, SIZE, end - place);
            place = end;
        }

        private void readBody(int function) {
            int sectionBound = bound;
            bound = nextEnd();
            readLocals(function);
            contents.functions.set(function, BODY, contents.code.count());
            open.set(0, -1);
            openCount = 1;
            for (int n = 0; n < MOST_BYTES && fault == 0 && openCount > 0; n++) {
                readInstruction();
            }
            contents.functions.set(function, LAST, contents.code.count() - 1);
            if (place != bound) {
                refuse(MALFORMED);
            }
            bodies++;
            bound = sectionBound;
        }

        private void readLocals(int function) {
            int locals = contents.parametersOf(function);
            int rows = nextUnsigned();
            // A row takes two bytes, so that a greater count ends too early however great it is.
            int most = isAbove(rows, MOST_BYTES) ? MOST_BYTES : rows;
            for (int i = 0; i < most && fault == 0; i++) {
                int number = nextUnsigned();
                if (isAbove(number, MOST_LOCALS - locals)) {
                    refuse(UNSUPPORTED);
                }
                locals += number;
                readValueType();
            }
            contents.functions.set(function, LOCALS, locals);
        }

        private void readInstruction() {
            int op = nextByte();
            if (!Op.isKnown(op)) {
                refuse(UNSUPPORTED);
            }
            if (fault != 0) {
                return;
            }
            int row = contents.code.add();
            contents.code.set(row, OP, op);
            if (Op.opensBlock(op)) {
                openBlock(row);
            } else if (op == Op.ELSE) {
                turnBlock(row);
            } else if (op == Op.END) {
                closeBlock(row);
            } else if (op == Op.BR_TABLE) {
                readPlaces(row);
            } else {
                readOperands(row, op);
            }
        }

        private void readOperands(int row, int op) {
            if (op == Op.CONST) {
                contents.code.set(row, FIRST, nextSigned());
            } else if (op == Op.MEMORY_SIZE || op == Op.MEMORY_GROW) {
                expect(0);
            } else if (Op.isAccess(op)) {
                contents.code.set(row, SECOND, nextUnsigned());
                contents.code.set(row, FIRST, nextUnsigned());
            } else if (op == Op.BR || op == Op.BR_IF || op == Op.CALL || op >= Op.LOCAL_GET && op <= Op.GLOBAL_SET) {
                contents.code.set(row, FIRST, nextUnsigned());
            }
        }

        private void openBlock(int row) {
            int type = nextByte();
            if (type != I32 && type != NO_VALUE || openCount > MOST_BLOCKS) {
                refuse(UNSUPPORTED);
            }
            contents.code.set(row, FIRST, type);
            open.set(openCount, row);
            openCount++;
        }

        private void turnBlock(int row) {
            int block = open.get(openCount - 1);
            if (contents.code.get(block, OP) != Op.IF || contents.code.get(block, MATE) != 0) {
                refuse(MALFORMED);
            }
            contents.code.set(block, MATE, row);
        }

        private void closeBlock(int row) {
            openCount--;
            int block = open.get(openCount);
            int turn = contents.code.get(block, MATE);
            contents.code.set(turn != 0 ? turn : block, MATE, row);
        }

        private void readPlaces(int row) {
            int count = nextUnsigned();
            if (isAbove(count, MOST_PLACES)) {
                refuse(UNSUPPORTED);
            }
            contents.code.set(row, FIRST, count);
            contents.code.set(row, SECOND, contents.places.count());
            for (int i = 0; i <= MOST_PLACES && i <= count && fault == 0; i++) {
                contents.places.set(contents.places.add(), 0, nextUnsigned());
            }
        }

        private void expect(int number) {
            if (nextByte() != number) {
                refuse(MALFORMED);
            }
        }

        private int nextUpTo(int most) {
            int number = nextByte();
            if (number > most) {
                refuse(MALFORMED);
            }
            return number;
        }

        /** Where that ends whose length stands here; here, if that is beyond what is left. */
        private int nextEnd() {
            int length = nextUnsigned();
            if (isAbove(length, bound - place)) {
                refuse(MALFORMED);
                return place;
            }
            return place + length;
        }

        private int nextUnsigned() {
            int number = 0;
            for (int i = 0; i < NUMBER_BYTES; i++) {
                int next = nextByte();
                number |= (next & 127) << 7 * i;
                if (i == NUMBER_BYTES - 1 && next > 15) {
                    refuse(MALFORMED);
                }
                if (next < 128) {
                    return number;
                }
            }
            return number;
        }

        private int nextSigned() {
            int number = 0;
            for (int i = 0; i < NUMBER_BYTES; i++) {
                int next = nextByte();
                number |= (next & 127) << 7 * i;
                if (i == NUMBER_BYTES - 1) {
                    // Bits 3 to 6 are the sign, and none may follow.
                    if (next >> 3 != 0 && next >> 3 != 15) {
                        refuse(MALFORMED);
                    }
                    return number;
                }
                if (next < 128) {
                    return (next & 64) == 0 ? number : number | -1 << 7 * (i + 1);
                }
            }
            return number;
        }

        private int nextByte() {
            if (fault != 0 || place < 0 || place >= bound || place >= bytes.length) {
                fault = fault != 0 ? fault : MALFORMED;
                return 0;
            }
            place++;
            return bytes[place - 1];
        }

        private void refuse(int why) {
            fault = fault != 0 ? fault : why;
        }
    }

    /** Checks the contents by the algorithm of the specification's appendix; its operands are all alike, so it counts. */
    private static final class Validator {
        private static final int BASE = 0;
        private static final int GIVES = 1;
        private static final int TAKES = 2;
        private static final int OPENED_BY = 3;
        private static final int DEAD = 4;
        private static final int ENTERED = 5;

        private static final int FUNCTION = 0;
        private static final int MEMORY_KIND = 2;
        private static final int GLOBAL = 3;

        private final Contents contents;
        private final Table blocks = new Table(MOST_BLOCKS + 1, 6);
        private int open;
        private int height;
        private int function;
        private int fault;

        Validator(Contents contents) {
            this.contents = contents;
        }

        int judge() {
            fault = 0;
            judgeTypes();
            if (contents.mostPages < contents.firstPages) {
                refuse(INVALID);
            }
            for (int i = 0; i < MOST_EXPORTS && i < contents.exports.count(); i++) {
                judgeExport(i);
            }
            for (int i = 0; i < MOST_FUNCTIONS && i < contents.functions.count() && fault == 0; i++) {
                judgeBody(i);
            }
            judgeData();
            return fault;
        }

        private void judgeTypes() {
            for (int i = 0; i < MOST_TYPES && i < contents.types.count(); i++) {
                if (contents.types.get(i, RESULTS) > 1) {
                    refuse(INVALID);
                }
            }
            for (int i = 0; i < MOST_FUNCTIONS && i < contents.functions.count(); i++) {
                if (!contents.types.has(contents.functions.get(i, TYPE))) {
                    refuse(INVALID);
                }
            }
        }

        private void judgeExport(int export) {
            if (!isThere(contents.exports.get(export, KIND), contents.exports.get(export, INDEX))) {
                refuse(INVALID);
            }
            for (int i = 0; i < export; i++) {
                if (haveSameName(i, export)) {
                    refuse(INVALID);
                }
            }
        }

        private boolean isThere(int kind, int index) {
            switch (kind) {
                case FUNCTION:
                    return contents.functions.has(index);
                case MEMORY_KIND:
                    return contents.hasMemory && index == 0;
                case GLOBAL:
                    return contents.globals.has(index);
                default:
                    return false;
            }
        }

        private boolean haveSameName(int one, int other) {
            boolean same = contents.exports.get(one, LENGTH) == contents.exports.get(other, LENGTH);
            for (int i = 0; i < MOST_LETTERS; i++) {
                same = same && contents.exports.get(one, LETTERS + i) == contents.exports.get(other, LETTERS + i);
            }
            return same;
        }

        private void judgeData() {
            int count = contents.data.count();
            for (int i = 0; i < MOST_DATA && i < count; i++) {
                if (!contents.hasMemory || contents.data.get(i, MEMORY) != 0) {
                    refuse(INVALID);
                }
            }
            for (int i = 0; i < MOST_DATA && i < count; i++) {
                if (isAbove(contents.data.get(i, PLACE), contents.firstPages * PAGE - contents.data.get(i, SIZE))) {
                    refuse(DATA_OUTSIDE);
                }
            }
        }

        private void judgeBody(int body) {
            function = body;
            height = 0;
            open = 0;
            int results = contents.resultsOf(body);
            openBlock(Op.BLOCK, results, results);
            int last = contents.functions.get(body, LAST);
            for (int i = contents.functions.get(body, BODY); i <= last && fault == 0; i++) {
                contents.code.set(i, HEIGHT, height);
                contents.code.set(i, ALIVE, isAlive());
                judgeInstruction(i, contents.code.get(i, OP), contents.code.get(i, FIRST));
            }
        }

        private int isAlive() {
            return inner(ENTERED) != 0 && inner(DEAD) == 0 ? 1 : 0;
        }

        private int inner(int column) {
            return blocks.get(open - 1, column);
        }

        private void judgeInstruction(int row, int op, int first) {
            if (Op.opensBlock(op)) {
                take(op == Op.IF ? 1 : 0);
                openBlock(op, contents.blockResults(row), contents.labelResults(row));
            } else if (op == Op.ELSE || op == Op.END) {
                closeBlock(op);
            } else if (op == Op.BR || op == Op.BR_IF || op == Op.BR_TABLE) {
                judgeBranch(row, op, first);
            } else if (Op.isControl(op)) {
                judgeOtherControl(op, first);
            } else {
                judgeOperands(row, op, first);
                take(Op.takes(op));
                give(Op.gives(op));
            }
        }

        private void openBlock(int op, int gives, int takes) {
            int entered = open == 0 ? 1 : isAlive();
            blocks.set(open, BASE, height);
            blocks.set(open, GIVES, gives);
            blocks.set(open, TAKES, takes);
            blocks.set(open, OPENED_BY, op);
            blocks.set(open, DEAD, 0);
            blocks.set(open, ENTERED, entered);
            open++;
        }

        private void closeBlock(int op) {
            int gives = inner(GIVES);
            if (op == Op.END && inner(OPENED_BY) == Op.IF && gives > 0) {
                refuse(INVALID);
            }
            take(gives);
            if (height != inner(BASE)) {
                refuse(INVALID);
            }
            if (op == Op.END) {
                open--;
                give(gives);
            } else {
                blocks.set(open - 1, OPENED_BY, Op.ELSE);
                blocks.set(open - 1, DEAD, 0);
            }
        }

        private void judgeBranch(int row, int op, int first) {
            int label = op == Op.BR_TABLE ? contents.labelAt(row, first) : first;
            if (isAbove(label, open - 1)) {
                refuse(INVALID);
            }
            int results = takenBy(label);
            if (op == Op.BR_TABLE) {
                judgePlaces(row, first, results);
            }
            take(op == Op.BR ? 0 : 1);
            take(results);
            if (op == Op.BR_IF) {
                give(results);
            } else {
                leadAway();
            }
        }

        private int takenBy(int label) {
            return blocks.get(open - 1 - label, TAKES);
        }

        private void judgePlaces(int row, int count, int results) {
            for (int i = 0; i < MOST_PLACES && i < count; i++) {
                int label = contents.labelAt(row, i);
                if (isAbove(label, open - 1) || takenBy(label) != results) {
                    refuse(INVALID);
                }
            }
        }

        private void judgeOtherControl(int op, int first) {
            if (op == Op.UNREACHABLE) {
                leadAway();
            } else if (op == Op.RETURN) {
                take(contents.resultsOf(function));
                leadAway();
            } else if (op == Op.CALL) {
                if (!contents.functions.has(first)) {
                    refuse(INVALID);
                }
                take(contents.parametersOf(first));
                give(contents.resultsOf(first));
            }
        }

        private void judgeOperands(int row, int op, int first) {
            boolean valid = true;
            if (op >= Op.LOCAL_GET && op <= Op.LOCAL_TEE) {
                valid = !isAbove(first, contents.functions.get(function, LOCALS) - 1);
            } else if (op == Op.GLOBAL_GET) {
                valid = contents.globals.has(first);
            } else if (op == Op.GLOBAL_SET) {
                valid = contents.globals.has(first) && contents.globals.get(first, CHANGES) == 1;
            } else if (Op.isAccess(op)) {
                // Widths of 1, 2 and 4 halve to the exponents of 2 that they are.
                valid = contents.hasMemory && !isAbove(contents.code.get(row, SECOND), Op.width(op) / 2);
            } else if (op == Op.MEMORY_SIZE || op == Op.MEMORY_GROW) {
                valid = contents.hasMemory;
            }
            if (!valid) {
                refuse(INVALID);
            }
        }

        private void take(int count) {
            int base = inner(BASE);
            if (height - base >= count) {
                height -= count;
                return;
            }
            if (inner(DEAD) == 0) {
                refuse(INVALID);
            }
            height = base;
        }

        private void give(int count) {
            height += count;
            if (height > MOST_OPERANDS) {
                refuse(UNSUPPORTED);
            }
        }

        private void leadAway() {
            height = inner(BASE);
            blocks.set(open - 1, DEAD, 1);
        }

        private void refuse(int why) {
            fault = fault != 0 ? fault : why;
        }
    }

    /** Makes the register code of validated contents, and holds it. */
    private static final class RegisterCode {
        private static final int ENTRY_WORDS = 4;

        /** No instruction has more entries than bytes, so that the words of all have room here. */
        final Row words = new Row(MOST_BYTES * ENTRY_WORDS);
        private final Contents contents;
        private final Row open = new Row(MOST_BLOCKS);
        private int openCount;
        private int entries;
        private int function;

        RegisterCode(Contents contents) {
            this.contents = contents;
        }

        int length() {
            return entries * ENTRY_WORDS;
        }

        int word(int entry, int word) {
            return words.get(entry * ENTRY_WORDS + word);
        }

        int firstEntry(int ofFunction) {
            return contents.code.get(contents.functions.get(ofFunction, BODY), ENTRY);
        }

        void make() {
            numberEntries();
            entries = 0;
            for (int i = 0; i < MOST_FUNCTIONS && i < contents.functions.count(); i++) {
                writeBody(i);
            }
        }

        /** Numbers come first, since what leads forward names entries that are not written yet. */
        private void numberEntries() {
            int entry = 0;
            for (int i = 0; i < MOST_FUNCTIONS && i < contents.functions.count(); i++) {
                int last = contents.functions.get(i, LAST);
                for (int row = contents.functions.get(i, BODY); row <= last; row++) {
                    contents.code.set(row, ENTRY, entry);
                    entry += entriesOf(row, last);
                }
            }
        }

        private int entriesOf(int row, int last) {
            int op = contents.code.get(row, OP);
            if (row == last) {
                return 1;
            }
            if (op == Op.END || contents.code.get(row, ALIVE) == 0) {
                return 0;
            }
            return op == Op.BR_TABLE ? contents.code.get(row, FIRST) + 2 : 1;
        }

        private void writeBody(int body) {
            function = body;
            openCount = 0;
            int last = contents.functions.get(body, LAST);
            for (int row = contents.functions.get(body, BODY); row <= last; row++) {
                int op = contents.code.get(row, OP);
                if (entriesOf(row, last) > 0) {
                    writeInstruction(row, op);
                }
                if (Op.opensBlock(op)) {
                    open.set(openCount, row);
                    openCount++;
                } else if (op == Op.END) {
                    openCount--;
                }
            }
        }

        private void writeInstruction(int row, int op) {
            int operands = op == Op.END ? contents.resultsOf(function) : contents.code.get(row, HEIGHT);
            int top = contents.functions.get(function, LOCALS) + operands;
            write(op, top, secondWord(row, op), thirdWord(row, op));
            if (op == Op.BR_TABLE) {
                int places = contents.code.get(row, FIRST);
                for (int i = 0; i <= MOST_PLACES && i <= places; i++) {
                    int label = contents.labelAt(row, i);
                    write(Op.BR, top - 1, targetOf(label), leftAt(label));
                }
            }
        }

        private void write(int op, int top, int second, int third) {
            int at = entries * ENTRY_WORDS;
            words.set(at, op);
            words.set(at + 1, top);
            words.set(at + 2, second);
            words.set(at + 3, third);
            entries++;
        }

        private int secondWord(int row, int op) {
            int first = contents.code.get(row, FIRST);
            switch (op) {
                case Op.BR:
                case Op.BR_IF:
                    return targetOf(first);
                case Op.IF:
                    return contents.code.get(contents.otherwiseOf(row), ENTRY);
                case Op.ELSE:
                    return contents.code.get(contents.code.get(row, MATE), ENTRY);
                case Op.CALL:
                    return firstEntry(first);
                case Op.BLOCK:
                case Op.LOOP:
                    return 0;
                default:
                    return first;
            }
        }

        private int thirdWord(int row, int op) {
            int first = contents.code.get(row, FIRST);
            switch (op) {
                case Op.BR:
                case Op.BR_IF:
                    return leftAt(first);
                case Op.CALL:
                    return contents.parametersOf(first);
                case Op.RETURN:
                case Op.END:
                    return contents.resultsOf(function);
                default:
                    return 0;
            }
        }

        /** The entry that a label leads to; the label behind all blocks is the body's. */
        private int targetOf(int label) {
            int at = openCount - 1 - label;
            if (at < 0) {
                return contents.code.get(contents.functions.get(function, LAST), ENTRY);
            }
            int block = open.get(at);
            boolean back = contents.code.get(block, OP) == Op.LOOP;
            return contents.code.get(back ? block + 1 : contents.endOf(block), ENTRY);
        }

        /** How many registers are left where a label leads to, twice, and how many results go there. */
        private int leftAt(int label) {
            int locals = contents.functions.get(function, LOCALS);
            int at = openCount - 1 - label;
            if (at < 0) {
                return 2 * locals + contents.resultsOf(function);
            }
            int block = open.get(at);
            int condition = contents.code.get(block, OP) == Op.IF ? 1 : 0;
            int operands = contents.code.get(block, HEIGHT) - condition;
            return 2 * (locals + operands) + contents.labelResults(block);
        }
    }

    /** What lasts while functions run: memory and globals, and the cells in which calls have locals and operands. */
    private static final class Store {
        final Row memory = new Row(MOST_PAGES * PAGE);
        final Row cells = new Row(MOST_CALLS * (MOST_LOCALS + MOST_OPERANDS));
        private final Row globals = new Row(MOST_GLOBALS);
        int pages;
        private int mostPages;

        void prepare(Contents contents, Reader reader) {
            memory.clear();
            pages = contents.firstPages;
            mostPages = contents.mostPages;
            for (int i = 0; i < MOST_GLOBALS; i++) {
                globals.set(i, contents.globals.get(i, VALUE));
            }
            for (int i = 0; i < MOST_DATA && i < contents.data.count(); i++) {
                int size = contents.data.get(i, SIZE);
                for (int k = 0; k < MOST_BYTES && k < size; k++) {
                    memory.set(contents.data.get(i, PLACE) + k, reader.byteAt(contents.data.get(i, FROM) + k));
                }
            }
        }

        /** Does an instruction that is not of control, with the operands below top; its trap, or 0. */
        int work(int op, int operand, int base, int top) {
            if (Op.isNumeric(op)) {
                return compute(op, top);
            }
            if (Op.isAccess(op)) {
                return access(op, operand, top);
            }
            move(op, operand, base, top);
            return 0;
        }

        private void move(int op, int operand, int base, int top) {
            int highest = cells.get(top - 1);
            switch (op) {
                case Op.SELECT:
                    cells.set(top - 3, cells.get(highest != 0 ? top - 3 : top - 2));
                    break;
                case Op.LOCAL_GET:
                    cells.set(top, cells.get(base + operand));
                    break;
                case Op.LOCAL_SET:
                case Op.LOCAL_TEE:
                    cells.set(base + operand, highest);
                    break;
                case Op.GLOBAL_GET:
                    cells.set(top, globals.get(operand));
                    break;
                case Op.GLOBAL_SET:
                    globals.set(operand, highest);
                    break;
                case Op.MEMORY_SIZE:
                    cells.set(top, pages);
                    break;
                case Op.MEMORY_GROW:
                    cells.set(top - 1, growBy(highest));
                    break;
                case Op.CONST:
                    cells.set(top, operand);
                    break;
                default:
                    break;
            }
        }

        private int growBy(int more) {
            if (isAbove(more, mostPages - pages)) {
                return -1;
            }
            pages += more;
            return pages - more;
        }

        private int compute(int op, int top) {
            int b = cells.get(top - 1);
            if (Op.takes(op) == 1) {
                cells.set(top - 1, Op.ofOne(op, b));
                return 0;
            }
            int a = cells.get(top - 2);
            int trap = Op.trapOf(op, a, b);
            if (trap == 0) {
                cells.set(top - 2, Op.ofTwo(op, a, b));
            }
            return trap;
        }

        private int access(int op, int offset, int top) {
            int width = Op.width(op);
            int under = top - Op.takes(op);
            long address = (cells.get(under) & Op.WITHOUT_SIGN) + (offset & Op.WITHOUT_SIGN);
            if (address + width > pages * PAGE) {
                return TRAP_OUTSIDE_MEMORY;
            }
            int at = (int) address;
            if (Op.isStore(op)) {
                write(at, width, cells.get(top - 1));
            } else {
                cells.set(under, signed(op, read(at, width)));
            }
            return 0;
        }

        private int read(int at, int width) {
            int number = 0;
            for (int i = 0; i < 4 && i < width; i++) {
                number |= memory.get(at + i) << 8 * i;
            }
            return number;
        }

        private void write(int at, int width, int number) {
            for (int i = 0; i < 4 && i < width; i++) {
                memory.set(at + i, number >>> 8 * i & 255);
            }
        }

        private static int signed(int op, int number) {
            if (op == Op.LOAD8_S) {
                return (byte) number;
            }
            return op == Op.LOAD16_S ? (short) number : number;
        }
    }

    /** The calls that run, and how they run on; what an instruction is, its kinds know. */
    private abstract static class Engine {
        static final int WINDOW = MOST_LOCALS + MOST_OPERANDS;
        /** Each call passes less than all instructions between two that count. */
        private static final int MOST_FREE = 2 * MOST_CALLS * MOST_BYTES;

        final Store store;
        /** Where the callers go on, and up to where their cells are in use then; the first call has none. */
        private final Row nexts = new Row(MOST_CALLS);
        private final Row tops = new Row(MOST_CALLS);
        int calls;
        int base;
        int next;
        int outcome;
        int value;

        Engine(Store store) {
            this.store = store;
        }

        /** Goes to the beginning of a function. */
        abstract void enter(int function);

        /** Does the next instruction, one that counts. */
        abstract void step();

        /** Does an else or an end, if that is next; false if it is not. */
        abstract boolean pass();

        void begin(int function, Row arguments, int count) {
            outcome = STILL_RUNS;
            value = 0;
            calls = 0;
            open(arguments, 0, count);
            enter(function);
        }

        /** Does at most so many instructions; how it stands then. */
        int go(int fuel) {
            passAll();
            for (int left = Math.min(fuel, MOST_FUEL); left > 0 && outcome == STILL_RUNS; left--) {
                step();
                passAll();
            }
            return outcome;
        }

        private void passAll() {
            boolean more = true;
            for (int n = 0; n < MOST_FREE && more; n++) {
                more = outcome == STILL_RUNS && pass();
            }
        }

        /** Opens a call on cells of its own: the arguments, and 0 in all others. */
        void open(Row from, int at, int count) {
            base = calls * WINDOW;
            calls++;
            for (int i = 0; i < WINDOW; i++) {
                store.cells.set(base + i, i < count ? from.get(at + i) : 0);
            }
        }

        /** Opens a call with the highest operands; false, and a trap, if there are too many. */
        boolean openFrom(int top, int count) {
            if (calls >= MOST_CALLS) {
                outcome = TRAP_CALLS;
                return false;
            }
            nexts.set(calls, next + 1);
            tops.set(calls, top - count);
            open(store.cells, top - count, count);
            return true;
        }

        /** Ends a call; where the caller's cells are in use up to, its result with them. */
        int close(int top, int results) {
            value = results > 0 ? store.cells.get(top - 1) : 0;
            calls--;
            if (calls <= 0) {
                outcome = DONE;
                return 0;
            }
            base = (calls - 1) * WINDOW;
            next = nexts.get(calls);
            int callerTop = tops.get(calls);
            if (results > 0) {
                store.cells.set(callerTop, value);
            }
            return callerTop + results;
        }
    }

    /** Runs instructions as they were read, with a stack of operands and one of labels. */
    private static final class StackEngine extends Engine {
        private static final int LABELS = MOST_BLOCKS;
        private static final int BLOCK_ROW = 0;
        private static final int BLOCK_TOP = 1;

        private final Contents contents;
        private final Table labels = new Table(MOST_CALLS * LABELS, 2);
        /** Of each call: its function, and how many labels it has. */
        private final Row functions = new Row(MOST_CALLS);
        private final Row depths = new Row(MOST_CALLS);
        private int depth;
        private int top;

        StackEngine(Store store, Contents contents) {
            super(store);
            this.contents = contents;
        }

        void enter(int function) {
            functions.set(calls - 1, function);
            depth = 0;
            top = base + contents.functions.get(function, LOCALS);
            next = contents.functions.get(function, BODY);
        }

        boolean pass() {
            int op = contents.code.get(next, OP);
            if (op == Op.ELSE) {
                next = contents.code.get(next, MATE);
                return true;
            }
            if (op != Op.END) {
                return false;
            }
            if (depth > 0) {
                depth--;
                next++;
            } else {
                leave();
            }
            return true;
        }

        void step() {
            int op = contents.code.get(next, OP);
            int operand = contents.code.get(next, FIRST);
            if (Op.isControl(op)) {
                control(op, operand);
                return;
            }
            int trap = store.work(op, operand, base, top);
            if (trap != 0) {
                outcome = trap;
                return;
            }
            top += Op.gives(op) - Op.takes(op);
            next++;
        }

        private void control(int op, int operand) {
            switch (op) {
                case Op.UNREACHABLE:
                    outcome = TRAP_UNREACHABLE;
                    break;
                case Op.BLOCK:
                case Op.LOOP:
                    enterBlock(next + 1);
                    break;
                case Op.IF:
                    enterBlock(pop() != 0 ? next + 1 : contents.otherwiseOf(next));
                    break;
                case Op.BR:
                    branch(operand);
                    break;
                case Op.BR_IF:
                    if (pop() != 0) {
                        branch(operand);
                    } else {
                        next++;
                    }
                    break;
                case Op.BR_TABLE:
                    branch(contents.labelAt(next, pop()));
                    break;
                case Op.RETURN:
                    leave();
                    break;
                case Op.CALL:
                    call(operand);
                    break;
                default:
                    next++;
                    break;
            }
        }

        private int pop() {
            top--;
            return store.cells.get(top);
        }

        private void enterBlock(int from) {
            int label = (calls - 1) * LABELS + depth;
            labels.set(label, BLOCK_ROW, next);
            labels.set(label, BLOCK_TOP, top);
            depth++;
            next = from;
        }

        private void branch(int label) {
            int level = depth - 1 - label;
            if (level < 0) {
                leave();
                return;
            }
            int row = (calls - 1) * LABELS + level;
            int block = labels.get(row, BLOCK_ROW);
            int left = labels.get(row, BLOCK_TOP);
            int results = contents.labelResults(block);
            if (results > 0) {
                store.cells.set(left, store.cells.get(top - 1));
            }
            top = left + results;
            boolean back = contents.code.get(block, OP) == Op.LOOP;
            depth = back ? level + 1 : level;
            next = back ? block + 1 : contents.endOf(block) + 1;
        }

        private void call(int function) {
            depths.set(calls - 1, depth);
            if (openFrom(top, contents.parametersOf(function))) {
                enter(function);
            }
        }

        private void leave() {
            top = close(top, contents.resultsOf(functions.get(calls - 1)));
            depth = depths.get(calls - 1);
        }
    }

    /** Runs register code: its entries alone say where operands are and what comes next. */
    private static final class RegisterEngine extends Engine {
        private final RegisterCode code;

        RegisterEngine(Store store, RegisterCode code) {
            super(store);
            this.code = code;
        }

        void enter(int function) {
            next = code.firstEntry(function);
        }

        boolean pass() {
            int op = code.word(next, 0);
            if (op == Op.ELSE) {
                next = code.word(next, 2);
                return true;
            }
            if (op != Op.END) {
                return false;
            }
            leave();
            return true;
        }

        void step() {
            int op = code.word(next, 0);
            int top = base + code.word(next, 1);
            if (Op.isControl(op)) {
                control(op, top);
                return;
            }
            int trap = store.work(op, code.word(next, 2), base, top);
            if (trap != 0) {
                outcome = trap;
                return;
            }
            next++;
        }

        private void control(int op, int top) {
            int highest = store.cells.get(top - 1);
            switch (op) {
                case Op.UNREACHABLE:
                    outcome = TRAP_UNREACHABLE;
                    break;
                case Op.IF:
                    next = highest != 0 ? next + 1 : code.word(next, 2);
                    break;
                case Op.BR:
                    branch(next, top);
                    break;
                case Op.BR_IF:
                    if (highest != 0) {
                        branch(next, top - 1);
                    } else {
                        next++;
                    }
                    break;
                case Op.BR_TABLE:
                    branchByTable(highest);
                    break;
                case Op.RETURN:
                    leave();
                    break;
                case Op.CALL:
                    call(top);
                    break;
                default:
                    next++;
                    break;
            }
        }

        private void branchByTable(int index) {
            int most = code.word(next, 2);
            int entry = next + 1 + (isAbove(index, most) ? most : index);
            branch(entry, base + code.word(entry, 1));
        }

        private void branch(int entry, int top) {
            int left = code.word(entry, 3);
            if ((left & 1) == 1) {
                store.cells.set(base + (left >> 1), store.cells.get(top - 1));
            }
            next = code.word(entry, 2);
        }

        private void call(int top) {
            int first = code.word(next, 2);
            if (openFrom(top, code.word(next, 3))) {
                next = first;
            }
        }

        private void leave() {
            close(base + code.word(next, 1), code.word(next, 3));
        }
    }
}
