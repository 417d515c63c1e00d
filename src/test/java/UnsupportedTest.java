import java.util.Arrays;

/** Promise 3, LOADING: each thing that is UNSUPPORTED when it is read, its edge, and when it is looked at. */
public final class UnsupportedTest {
    private static final int MALFORMED = 1;
    private static final int UNSUPPORTED = 2;
    private static final int INVALID = 3;
    private static final int[] TYPE = Mod.types(Mod.type(0, 0));
    private static final int[] FUNCTION = Mod.functions(0);
    /** Counts that are above any most; those from 2^31 on are below 0 where a sign is seen. */
    private static final int[] GREAT = {10, 127, 128, 255, 256, 65536, Integer.MAX_VALUE, Integer.MIN_VALUE, -2, -1};

    public static void main(String[] args) {
        anotherSection();
        typesOfValues();
        typesOfBlocks();
        anyOtherInstruction();
        types();
        parametersAndResults();
        functions();
        memories();
        globals();
        exports();
        data();
        letters();
        places();
        blocksInOneAnother();
        blocksAskedWhenTheTypeWasRead();
        locals();
        localsWithoutSuchAType();
        localsAsSoonAsTheNumberWasRead();
        bytesOfNames();
        pagesAtFirst();
        countsWhenTheyHaveBeenRead();
        Check.finish();
    }

    private static int[] m(int[]... sections) {
        return Mod.module(sections);
    }

    private static int[] inBody(int... bytes) {
        return m(TYPE, FUNCTION, Mod.code(Mod.rawBody(bytes)));
    }

    /** Each great count at a place: nothing stands behind it, so it has to be looked at when it has been read. */
    private static void greatCounts(String what, int[] before, int id, int... contentBefore) {
        for (int count : GREAT) {
            Check.loads(what + ": " + Integer.toUnsignedString(count), UNSUPPORTED,
                m(before, Mod.section(id, contentBefore, Mod.unsigned(count))));
        }
    }

    private static void anotherSection() {
        Check.says("UNSUPPORTED: another section");
        for (int id : new int[] {0, 2, 4, 8, 9}) {
            Check.loads("section " + id, UNSUPPORTED, m(Mod.section(id, Mod.b(0))));
            Check.loads("section " + id + " of nothing", UNSUPPORTED, m(Mod.section(id)));
            Check.loads("section " + id + " without a length", UNSUPPORTED, m(Mod.b(id)));
            Check.loads("section " + id + " with a wrong length", UNSUPPORTED, m(Mod.b(id, 99)));
        }
        Check.loads("section 2 behind 1", UNSUPPORTED, m(TYPE, Mod.b(2)));
        Check.loads("section 4 behind 3", UNSUPPORTED, m(TYPE, FUNCTION, Mod.b(4)));
        Check.loads("section 8 behind 7", UNSUPPORTED, m(Mod.exports(), Mod.b(8)));
        Check.loads("section 9 behind 7", UNSUPPORTED, m(Mod.exports(), Mod.b(9)));
    }

    private static void typesOfValues() {
        Check.says("a type of value (or of a block: but 64) that is not 127");
        for (int type = 0; type < 256; type++) {
            int want = type == 127 ? 0 : UNSUPPORTED;
            Check.loads("a parameter " + type, want, m(Mod.section(1, Mod.b(1, 96, 2, 127, type, 0))));
            Check.loads("a result " + type, want, m(Mod.section(1, Mod.b(1, 96, 0, 1, type))));
            Check.loads("a global " + type, want, m(Mod.section(6, Mod.b(1, type, 0, 65, 0, 11))));
            Check.loads("a local " + type, want, inBody(1, 1, type, 11));
            Check.loads("a row of no locals " + type, want, inBody(2, 1, 127, 0, type, 11));
        }
        Check.loads("a global of i64 that changes by 2", UNSUPPORTED, m(Mod.section(6, Mod.b(1, 126, 2, 65, 0, 11))));
        Check.loads("a parameter of i64, and then nothing", UNSUPPORTED, m(Mod.section(1, Mod.b(1, 96, 4, 126))));
    }

    private static void typesOfBlocks() {
        Check.says("(or of a block: but 64)");
        for (int type = 0; type < 256; type++) {
            boolean known = type == 64 || type == 127;
            int[] value = type == 127 ? Mod.con(1) : Mod.b();
            int[] drop = type == 127 ? Mod.b(26) : Mod.b();
            for (int op = 2; op <= 4; op++) {
                int[] condition = op == 4 ? Mod.con(1) : Mod.b();
                int[] other = op == 4 ? Mod.cat(Mod.b(5), value) : Mod.b();
                Check.loads("type " + type + " of " + op, known ? 0 : UNSUPPORTED,
                    inBody(Mod.cat(Mod.b(0), condition, Mod.b(op, type), value, other, Mod.b(11), drop, Mod.b(11))));
            }
        }
    }

    private static boolean isKnown(int op) {
        return op <= 5 || op >= 11 && op <= 16 || op == 26 || op == 27 || op >= 32 && op <= 36 || op == 40
            || op >= 44 && op <= 47 || op == 54 || op == 58 || op == 59 || op >= 63 && op <= 65
            || op >= 69 && op <= 79 || op >= 103 && op <= 120;
    }

    private static void anyOtherInstruction() {
        Check.says("any other instruction");
        for (int op = 0; op < 256; op++) {
            Check.due("instruction " + op + " is UNSUPPORTED", Check.fed(inBody(0, op)).load() == UNSUPPORTED, !isKnown(op));
            Check.due("behind nop, " + op + " is UNSUPPORTED", Check.fed(inBody(0, 1, op)).load() == UNSUPPORTED, !isKnown(op));
        }
        Check.loads("where it cannot be come to", UNSUPPORTED, inBody(0, 0, 66, 0, 26, 11));
    }

    private static void types() {
        Check.says("more than 8 types");
        for (int count = 0; count <= 9; count++) {
            Check.loads(count + " types", count <= 8 ? 0 : UNSUPPORTED, m(Mod.section(1, Mod.b(count), Mod.repeat(count, 96, 0, 0))));
        }
        greatCounts("types", Mod.b(), 1);
    }

    private static void parametersAndResults() {
        Check.says("4 parameters or results of one");
        for (int count = 0; count <= 5; count++) {
            Check.loads(count + " parameters", count <= 4 ? 0 : UNSUPPORTED, m(Mod.types(Mod.type(count, 1))));
            Check.loads(count + " results", count <= 1 ? 0 : count <= 4 ? INVALID : UNSUPPORTED, m(Mod.types(Mod.type(1, count))));
            Check.loads(count + " results of the second", count <= 1 ? 0 : count <= 4 ? INVALID : UNSUPPORTED,
                m(Mod.types(Mod.type(4, 1), Mod.type(4, count))));
        }
        greatCounts("parameters", Mod.b(), 1, 1, 96);
        greatCounts("results", Mod.b(), 1, 1, 96, 1, 127);
    }

    private static void functions() {
        Check.says("8 functions");
        int[] body = Mod.body(0);
        for (int count = 0; count <= 9; count++) {
            Check.loads(count + " functions", count <= 8 ? 0 : UNSUPPORTED,
                m(TYPE, Mod.functions(new int[count]), Mod.section(10, Mod.b(count), Mod.repeat(count, body))));
        }
        greatCounts("functions", TYPE, 3);
    }

    private static void memories() {
        Check.says("1 memory");
        Check.loads("no memory", 0, m(Mod.section(5, Mod.b(0))));
        Check.loads("one memory", 0, m(Mod.section(5, Mod.b(1, 0, 1))));
        Check.loads("two memories", UNSUPPORTED, m(Mod.section(5, Mod.b(2, 0, 1, 0, 1))));
        Check.loads("two memories, of limits 2", UNSUPPORTED, m(Mod.section(5, Mod.b(2, 2))));
        greatCounts("memories", Mod.b(), 5);
    }

    private static void globals() {
        Check.says("4 globals");
        for (int count = 0; count <= 5; count++) {
            Check.loads(count + " globals", count <= 4 ? 0 : UNSUPPORTED,
                m(Mod.section(6, Mod.b(count), Mod.repeat(count, Mod.global(1, 1)))));
        }
        greatCounts("globals", Mod.b(), 6);
    }

    private static void exports() {
        Check.says("8 exports");
        int[] all = new int[0];
        for (int count = 0; count <= 9; count++) {
            Check.loads(count + " exports", count <= 8 ? 0 : UNSUPPORTED, m(Mod.memory(1), Mod.section(7, Mod.b(count), all)));
            all = Mod.cat(all, Mod.export("m" + count, 2, 0));
        }
        greatCounts("exports", Mod.b(), 7);
    }

    private static void data() {
        Check.says("4 data");
        for (int count = 0; count <= 5; count++) {
            Check.loads(count + " data", count <= 4 ? 0 : UNSUPPORTED,
                m(Mod.memory(1), Mod.section(11, Mod.b(count), Mod.repeat(count, Mod.dataAt(3, 1)))));
        }
        greatCounts("data", Mod.memory(1), 11);
    }

    private static void letters() {
        Check.says("8 letters of a name");
        for (int count = 0; count <= 9; count++) {
            Check.loads(count + " letters", count <= 8 ? 0 : UNSUPPORTED,
                m(Mod.memory(1), Mod.exports(Mod.export("abcdefghi".substring(0, count), 2, 0))));
        }
        Check.loads("9 letters of a second name", UNSUPPORTED,
            m(Mod.memory(1), Mod.exports(Mod.export("abcdefgh", 2, 0), Mod.export("abcdefghi", 2, 0))));
        Check.loads("8 letters that are not there", MALFORMED, m(Mod.section(7, Mod.b(1, 8, 97))));
        greatCounts("letters", Mod.b(), 7, 1);
    }

    private static void places() {
        Check.says("8 places in a br_table (without the last one)");
        for (int count = 0; count <= 9; count++) {
            Check.loads(count + " places", count <= 8 ? 0 : UNSUPPORTED,
                m(TYPE, FUNCTION, Mod.code(Mod.body(0, Mod.con(0), Mod.b(14, count), Mod.repeat(count + 1, 0)))));
        }
        Check.loads("no places, and no last one", MALFORMED, inBody(0, 65, 0, 14, 0));
        Check.loads("8 places, and no last one", MALFORMED, inBody(Mod.cat(Mod.b(0, 65, 0, 14, 8), Mod.repeat(8, 0))));
        for (int count : GREAT) {
            Check.loads(Integer.toUnsignedString(count) + " places", UNSUPPORTED, inBody(Mod.cat(Mod.b(0, 65, 0, 14), Mod.unsigned(count))));
        }
    }

    private static int[] nested(int count, int... opening) {
        return m(TYPE, FUNCTION, Mod.code(Mod.body(0, Mod.repeat(count, opening), Mod.repeat(count, 11))));
    }

    private static void blocksInOneAnother() {
        Check.says("10 blocks in one another (the body itself not counted");
        for (int count = 0; count <= 12; count++) {
            int want = count <= 10 ? 0 : UNSUPPORTED;
            Check.loads(count + " blocks", want, nested(count, 2, 64));
            Check.loads(count + " loops", want, nested(count, 3, 64));
            Check.loads(count + " ifs", want, nested(count, 65, 0, 4, 64));
            Check.loads(count + " elses", want, nested(count, 65, 0, 4, 64, 5));
            int[] apart = Mod.repeat(count, 2, 64, 11);
            Check.loads(count + " blocks behind one another", 0, m(TYPE, FUNCTION, Mod.code(Mod.body(0, apart))));
        }
        int[] nine = Mod.cat(Mod.b(2, 64), Mod.repeat(9, 3, 64), Mod.repeat(9, 11));
        Check.loads("twice nine in one", 0, inBody(Mod.cat(Mod.b(0), nine, Arrays.copyOfRange(nine, 2, nine.length), Mod.b(11, 11))));
        int[] ten = Mod.body(0, Mod.repeat(10, 2, 64), Mod.repeat(10, 11));
        Check.loads("ten in each of two bodies", 0, m(TYPE, Mod.functions(0, 0), Mod.code(ten, ten)));
        Check.loads("eleven that cannot be come to", UNSUPPORTED,
            m(TYPE, FUNCTION, Mod.code(Mod.body(0, Mod.b(0), Mod.repeat(11, 2, 64), Mod.repeat(11, 11)))));
    }

    private static void blocksAskedWhenTheTypeWasRead() {
        Check.says("asked when the block's type has been read)");
        int[] ten = Mod.cat(Mod.b(0), Mod.repeat(10, 3, 64));
        for (int op = 2; op <= 4; op++) {
            Check.loads("an eleventh " + op + " without its type", MALFORMED, inBody(Mod.cat(ten, Mod.b(op))));
            Check.loads("an eleventh " + op + " with its type alone", UNSUPPORTED, inBody(Mod.cat(ten, Mod.b(op, 64))));
            Check.loads("an eleventh " + op + ", then an else", UNSUPPORTED, inBody(Mod.cat(ten, Mod.b(op, 64, 5, 5))));
        }
        Check.loads("a tenth with its type alone", MALFORMED, inBody(Mod.cat(Mod.b(0), Mod.repeat(10, 3, 64))));
    }

    private static int[] withLocals(int parameters, int... body) {
        return m(Mod.types(Mod.type(parameters, 0)), FUNCTION, Mod.code(Mod.rawBody(body)));
    }

    private static void locals() {
        Check.says("more than 12 locals, with parameters");
        for (int parameters = 0; parameters <= 4; parameters++) {
            for (int count = 0; count <= 14; count++) {
                int want = parameters + count <= 12 ? 0 : UNSUPPORTED;
                Check.loads(count + " and " + parameters, want, withLocals(parameters, 1, count, 127, 11));
                if (count > 1) {
                    Check.loads(count + " in two rows and " + parameters, want,
                        withLocals(parameters, 2, count - 1, 127, 1, 127, 11));
                }
            }
        }
        Check.loads("four parameters and no row", 0, withLocals(4, 0, 11));
        Check.loads("twelve rows of one", 0, withLocals(0, Mod.cat(Mod.b(12), Mod.repeat(12, 1, 127), Mod.b(11))));
        Check.loads("thirteen rows of one", UNSUPPORTED, withLocals(0, Mod.cat(Mod.b(13), Mod.repeat(13, 1, 127), Mod.b(11))));
        Check.loads("ninety rows of none", 0, withLocals(4, Mod.cat(Mod.b(90), Mod.repeat(90, 0, 127), Mod.b(11))));
        Check.loads("2^32 - 1 rows of none", MALFORMED,
            withLocals(4, Mod.cat(Mod.b(255, 255, 255, 255, 15), Mod.repeat(50, 0, 127))));
        Check.loads("twelve in each of two bodies", 0, m(Mod.types(Mod.type(2, 0)), Mod.functions(0, 0),
            Mod.code(Mod.body(10), Mod.body(10))));
    }

    private static void localsWithoutSuchAType() {
        Check.says("(without, if there is no such type");
        int[] type = Mod.types(Mod.type(4, 0));
        for (int index : new int[] {1, 8, Integer.MIN_VALUE, -1}) {
            int[] function = Mod.section(3, Mod.b(1), Mod.unsigned(index));
            String what = " of type " + Integer.toUnsignedString(index);
            Check.loads("12 locals" + what, INVALID, m(type, function, Mod.code(Mod.body(12))));
            Check.loads("13 locals" + what, UNSUPPORTED, m(type, function, Mod.code(Mod.body(13))));
        }
        Check.loads("12 locals without types", INVALID, m(FUNCTION, Mod.code(Mod.body(12))));
        Check.loads("13 locals without types", UNSUPPORTED, m(FUNCTION, Mod.code(Mod.body(13))));
        Check.loads("8 locals of a type with two results", INVALID, m(Mod.types(Mod.type(4, 2)), FUNCTION, Mod.code(Mod.body(8))));
        Check.loads("9 locals of a type with two results", UNSUPPORTED, m(Mod.types(Mod.type(4, 2)), FUNCTION, Mod.code(Mod.body(9))));
    }

    private static void localsAsSoonAsTheNumberWasRead() {
        Check.says("as soon as a row's number has been read, however great it is)");
        Check.loads("13, and then nothing", UNSUPPORTED, withLocals(0, 1, 13));
        Check.loads("12, and then nothing", MALFORMED, withLocals(0, 1, 12));
        Check.loads("10 and 3, and then nothing", UNSUPPORTED, withLocals(0, 2, 10, 127, 3));
        for (int number : GREAT) {
            if (number != 10) {
                Check.loads(Integer.toUnsignedString(number), UNSUPPORTED, withLocals(0, Mod.cat(Mod.b(1), Mod.unsigned(number))));
            }
        }
        Check.loads("8 and 2^32 - 8", UNSUPPORTED, withLocals(0, 2, 8, 127, 248, 255, 255, 255, 15, 127, 11));
        Check.loads("4 parameters and 2^32 - 4", UNSUPPORTED, withLocals(4, 1, 252, 255, 255, 255, 15, 127, 11));
        Check.loads("2^31 and 2^31", UNSUPPORTED, withLocals(0, 2, 128, 128, 128, 128, 8, 127, 128, 128, 128, 128, 8, 127, 11));
    }

    private static void bytesOfNames() {
        Check.says("a byte of a name above 127");
        for (int letter = 0; letter < 256; letter++) {
            int want = letter <= 127 ? 0 : UNSUPPORTED;
            Check.loads("a name of " + letter, want, m(Mod.memory(1), Mod.section(7, Mod.b(1, 1, letter, 2, 0))));
            Check.loads("a name that ends by " + letter, want, m(Mod.memory(1), Mod.section(7, Mod.b(1, 3, 97, 98, letter, 2, 0))));
        }
        Check.loads("two letters of 194 128", UNSUPPORTED, m(Mod.memory(1), Mod.section(7, Mod.b(1, 2, 194, 128, 2, 0))));
        Check.loads("letter 128, then kind 9", UNSUPPORTED, m(Mod.section(7, Mod.b(1, 1, 128, 9, 0))));
        Check.loads("letter 128, then the end", UNSUPPORTED, m(Mod.section(7, Mod.b(1, 8, 128))));
    }

    private static void pagesAtFirst() {
        Check.says("a memory with more than 4 pages at first");
        for (int pages = 0; pages <= 5; pages++) {
            Check.loads(pages + " pages", pages <= 4 ? 0 : UNSUPPORTED, m(Mod.memory(pages)));
            Check.loads(pages + " pages, with a most", pages <= 4 ? 0 : UNSUPPORTED, m(Mod.memory(pages, 9)));
        }
        Check.loads("5 pages and no most, where one should stand", UNSUPPORTED, m(Mod.section(5, Mod.b(1, 1, 5))));
        Check.loads("5 pages of at most 4", UNSUPPORTED, m(Mod.memory(5, 4)));
        greatCounts("pages", Mod.b(), 5, 1, 0);
    }

    private static void countsWhenTheyHaveBeenRead() {
        Check.says("(A count is looked at when it has been read.)");
        Check.loads("9 types, the first without 96", UNSUPPORTED, m(Mod.section(1, Mod.b(9, 0))));
        Check.loads("8 types, the first without 96", MALFORMED, m(Mod.section(1, Mod.b(8, 0))));
        Check.loads("5 globals, the first changes by 2", UNSUPPORTED, m(Mod.section(6, Mod.b(5, 127, 2))));
        Check.loads("4 globals, the first changes by 2", MALFORMED, m(Mod.section(6, Mod.b(4, 127, 2))));
        Check.loads("9 exports, the first of kind 4", UNSUPPORTED, m(Mod.section(7, Mod.b(9, 0, 4))));
        Check.loads("8 exports, the first of kind 4", MALFORMED, m(Mod.section(7, Mod.b(8, 0, 4))));
        Check.loads("5 data, the first without a place", UNSUPPORTED, m(Mod.section(11, Mod.b(5, 0, 11))));
        Check.loads("4 data, the first without a place", MALFORMED, m(Mod.section(11, Mod.b(4, 0, 11))));
        Check.loads("9 functions, and then nothing", UNSUPPORTED, m(Mod.section(3, Mod.b(9))));
        Check.loads("8 functions, and then nothing", MALFORMED, m(Mod.section(3, Mod.b(8))));
        Check.loads("5 parameters, and then nothing", UNSUPPORTED, m(Mod.section(1, Mod.b(1, 96, 5))));
        Check.loads("4 parameters, and then nothing", MALFORMED, m(Mod.section(1, Mod.b(1, 96, 4))));
    }
}
