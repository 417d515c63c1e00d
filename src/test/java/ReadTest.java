/** Promise 3: what is MALFORMED and what is UNSUPPORTED, and which of them comes first. */
public final class ReadTest {
    private static final int MALFORMED = 1;
    private static final int UNSUPPORTED = 2;
    private static final int INVALID = 3;
    private static final int[] TYPE = Mod.types(Mod.type(0, 0));
    private static final int[] FUNCTION = Mod.functions(0);

    public static void main(String[] args) {
        header();
        sections();
        lengths();
        numbers();
        types();
        functionsAndBodies();
        memories();
        globals();
        exports();
        data();
        locals();
        instructions();
        blocks();
        Check.finish();
    }

    private static int[] m(int[]... sections) {
        return Mod.module(sections);
    }

    private static int[] inBody(int... bytes) {
        return m(TYPE, FUNCTION, Mod.code(Mod.rawBody(bytes)));
    }

    private static void header() {
        Check.loads("nothing", MALFORMED, new int[0]);
        Check.loads("a header alone", 0, m());
        for (int i = 0; i < 8; i++) {
            int[] wrong = m();
            wrong[i]++;
            Check.loads("a header with another byte " + i, MALFORMED, wrong);
            Check.loads("a header of " + i, MALFORMED, java.util.Arrays.copyOf(m(), i));
        }
    }

    private static void sections() {
        for (int id : new int[] {0, 2, 4, 8, 9}) {
            Check.loads("section " + id, UNSUPPORTED, m(Mod.b(id)));
        }
        for (int id : new int[] {12, 13, 127, 128, 255}) {
            Check.loads("section " + id, MALFORMED, m(Mod.b(id)));
        }
        Check.loads("section 0 behind 1", MALFORMED, m(TYPE, Mod.b(0)));
        Check.loads("section 2 behind 1", UNSUPPORTED, m(TYPE, Mod.b(2)));
        Check.loads("section 2 behind 5", MALFORMED, m(Mod.memory(1), Mod.b(2)));
        Check.loads("section 1 twice", MALFORMED, m(TYPE, TYPE));
        Check.loads("section 1 behind 5", MALFORMED, m(Mod.memory(1), TYPE));
        Check.loads("empty sections", 0, m(Mod.types(), Mod.functions(), Mod.vector(5), Mod.globals(), Mod.exports(),
            Mod.code(), Mod.data()));
        Check.loads("section 9 between", UNSUPPORTED, m(Mod.types(), Mod.section(9, Mod.b(0))));
    }

    private static void lengths() {
        Check.loads("no length", MALFORMED, m(Mod.b(1)));
        Check.loads("length 0", MALFORMED, m(Mod.b(1, 0)));
        Check.loads("a length beyond the module", MALFORMED, m(Mod.b(1, 2, 9)));
        Check.loads("too many types in what is left", UNSUPPORTED, m(Mod.b(1, 1, 9)));
        Check.loads("a section that is too long", MALFORMED, m(Mod.section(1, Mod.b(0, 0))));
        Check.loads("a section that is too short", MALFORMED, m(Mod.b(1, 3, 1, 96, 0, 0)));
        Check.loads("a number over a section's end", MALFORMED, m(Mod.b(1, 1, 128, 0)));
        Check.loads("a length with no end", MALFORMED, m(Mod.b(1, 255, 255, 255, 255, 15)));
        Check.loads("a body beyond its section", MALFORMED, m(TYPE, FUNCTION, Mod.b(10, 3, 1, 2, 0, 11)));
        Check.loads("a body beyond its section, type 5", MALFORMED, m(TYPE, FUNCTION, Mod.b(10, 4, 1, 4, 1, 1, 5)));
        Check.loads("a body too many bytes long", MALFORMED, inBody(0, 11, 1));
        Check.loads("a body with two ends", MALFORMED, inBody(0, 11, 11));
        Check.loads("a body without end", MALFORMED, inBody(0, 1));
        Check.loads("a body of nothing", MALFORMED, inBody());
        Check.loads("a body that ends in a block", MALFORMED, inBody(0, 2, 64, 11));
        Check.loads("a body that ends in a number", MALFORMED, inBody(0, 65, 128));
        Check.loads("data beyond the section", MALFORMED, m(Mod.memory(1), Mod.b(11, 7, 1, 0, 65, 0, 11, 2, 1, 1)));
        Check.loads("a name beyond the section", MALFORMED, m(Mod.b(7, 3, 1, 2, 97)));
        Check.loads("a name beyond the section, too long", UNSUPPORTED, m(Mod.b(7, 3, 1, 9, 97)));
        Check.loads("a name beyond the section, with a letter", UNSUPPORTED, m(Mod.b(7, 3, 1, 2, 128)));
    }

    private static void numbers() {
        Check.loads("a count of five bytes", 0, m(Mod.section(1, Mod.b(128, 128, 128, 128, 0))));
        Check.loads("a count of six bytes", MALFORMED, m(Mod.section(1, Mod.b(128, 128, 128, 128, 128, 0))));
        Check.loads("a count with bit 32", MALFORMED, m(Mod.section(1, Mod.b(128, 128, 128, 128, 16))));
        Check.loads("the greatest count", UNSUPPORTED, m(Mod.section(1, Mod.b(255, 255, 255, 255, 15))));
        int[][] right = {{128, 128, 128, 128, 0}, {255, 255, 255, 255, 7}, {128, 128, 128, 128, 120},
            {255, 255, 255, 255, 127}, {128, 128, 128, 128, 7}};
        int[] values = {0, Integer.MAX_VALUE, Integer.MIN_VALUE, -1, 7 << 28};
        for (int i = 0; i < right.length; i++) {
            Check.returns("const " + i, Mod.single(0, 1, 0, Mod.b(65), right[i]), values[i]);
        }
        for (int last : new int[] {8, 15, 16, 64, 112, 119, 128, 255, 248}) {
            Check.loads("const with last " + last, MALFORMED, inBody(0, 65, 128, 128, 128, 128, last, 26, 11));
        }
        Check.returns("const of two bytes", Mod.single(0, 1, 0, Mod.b(65, 255, 126)), -129);
        Check.returns("const 64", Mod.single(0, 1, 0, Mod.b(65, 192, 0)), 64);
        Check.returns("const -64", Mod.single(0, 1, 0, Mod.b(65, 64)), -64);
        Check.returns("const -1 in three", Mod.single(0, 1, 0, Mod.b(65, 255, 255, 127)), -1);
    }

    private static void types() {
        Check.loads("8 types", 0, m(Mod.section(1, Mod.b(8), Mod.repeat(8, 96, 0, 0))));
        Check.loads("9 types", UNSUPPORTED, m(Mod.section(1, Mod.b(9), Mod.repeat(9, 96, 0, 0))));
        Check.loads("95 before a type", MALFORMED, m(Mod.section(1, Mod.b(1, 95, 0, 0))));
        Check.loads("4 parameters", 0, m(Mod.types(Mod.type(4, 1))));
        Check.loads("5 parameters", UNSUPPORTED, m(Mod.types(Mod.type(5, 0))));
        Check.loads("4 results", INVALID, m(Mod.types(Mod.type(0, 4))));
        Check.loads("5 results", UNSUPPORTED, m(Mod.types(Mod.type(0, 5))));
        Check.loads("an i64 parameter", UNSUPPORTED, m(Mod.section(1, Mod.b(1, 96, 1, 126, 0))));
        Check.loads("an i64 result", UNSUPPORTED, m(Mod.section(1, Mod.b(1, 96, 0, 1, 126))));
        Check.loads("a parameter that is no type", UNSUPPORTED, m(Mod.section(1, Mod.b(1, 96, 1, 0, 0))));
        Check.loads("parameters that end too early", MALFORMED, m(Mod.section(1, Mod.b(1, 96, 1))));
    }

    private static void functionsAndBodies() {
        int[] eight = new int[8];
        int[] body = Mod.body(0);
        Check.loads("8 functions", 0, m(TYPE, Mod.functions(eight),
            Mod.code(body, body, body, body, body, body, body, body)));
        Check.loads("9 functions", UNSUPPORTED, m(TYPE, Mod.functions(new int[9])));
        Check.loads("a function without code", MALFORMED, m(TYPE, FUNCTION));
        Check.loads("a function without code, with data", MALFORMED, m(TYPE, FUNCTION, Mod.data()));
        Check.loads("a function without code, then 9", UNSUPPORTED, m(TYPE, FUNCTION, Mod.b(9)));
        Check.loads("no function without code", 0, m(TYPE, Mod.functions()));
        Check.loads("a body too many", MALFORMED, m(TYPE, FUNCTION, Mod.code(body, body)));
        Check.loads("a body too few", MALFORMED, m(TYPE, Mod.functions(0, 0), Mod.code(body)));
        Check.loads("a body without functions", MALFORMED, m(Mod.code(body)));
        Check.loads("nine bodies", MALFORMED, m(TYPE, FUNCTION, Mod.section(10, Mod.b(9))));
        Check.loads("the count before the body's fault", MALFORMED, m(TYPE, FUNCTION, Mod.section(10, Mod.b(2, 2, 0, 6))));
    }

    private static void memories() {
        Check.loads("4 pages", 0, m(Mod.memory(4)));
        Check.loads("5 pages", UNSUPPORTED, m(Mod.memory(5)));
        Check.loads("-1 pages", UNSUPPORTED, m(Mod.memory(-1)));
        Check.loads("5 pages without a most", UNSUPPORTED, m(Mod.section(5, Mod.b(1, 1, 5))));
        Check.loads("limits 2", MALFORMED, m(Mod.section(5, Mod.b(1, 2, 5))));
        Check.loads("two memories", UNSUPPORTED, m(Mod.section(5, Mod.b(2, 2))));
        Check.loads("no memory", 0, m(Mod.section(5, Mod.b(0))));
        Check.loads("any most", 0, m(Mod.memory(4, -1)));
        Check.loads("a most that is below", INVALID, m(Mod.memory(2, 1)));
        Check.loads("a most that is equal", 0, m(Mod.memory(2, 2)));
        Check.loads("a most with a wrong number", MALFORMED, m(Mod.section(5, Mod.b(1, 1, 1, 255, 255, 255, 255, 31))));
    }

    private static void globals() {
        int[] one = Mod.global(1, 1);
        Check.loads("4 globals", 0, m(Mod.globals(one, one, one, one)));
        Check.loads("5 globals", UNSUPPORTED, m(Mod.globals(one, one, one, one, one)));
        Check.loads("an i64 global", UNSUPPORTED, m(Mod.section(6, Mod.b(1, 126, 2))));
        Check.loads("a global that changes by 2", MALFORMED, m(Mod.section(6, Mod.b(1, 127, 2, 65, 0, 11))));
        Check.loads("a global of another global", MALFORMED, m(Mod.section(6, Mod.b(2, 127, 0, 65, 0, 11, 127, 0, 35, 0, 11))));
        Check.loads("a global of i64.const", MALFORMED, m(Mod.section(6, Mod.b(1, 127, 0, 66, 0, 11))));
        Check.loads("a global of a sum", MALFORMED, m(Mod.section(6, Mod.b(1, 127, 0, 65, 0, 65, 0, 106, 11))));
        Check.loads("a global of nothing", MALFORMED, m(Mod.section(6, Mod.b(1, 127, 0, 11))));
        Check.loads("a global with a wrong number", MALFORMED, m(Mod.section(6, Mod.b(1, 127, 0, 65, 255, 255, 255, 255, 8, 11))));
    }

    private static void exports() {
        int[] all = new int[0];
        for (int i = 0; i < 8; i++) {
            all = Mod.cat(all, Mod.export("memory" + i, 2, 0));
        }
        Check.loads("8 exports", 0, m(Mod.memory(1), Mod.section(7, Mod.b(8), all)));
        Check.loads("9 exports", UNSUPPORTED, m(Mod.memory(1), Mod.section(7, Mod.b(9), all, Mod.export("x", 2, 0))));
        Check.loads("8 letters", 0, m(Mod.memory(1), Mod.exports(Mod.export("abcdefgh", 2, 0))));
        Check.loads("9 letters", UNSUPPORTED, m(Mod.memory(1), Mod.exports(Mod.export("abcdefghi", 2, 0))));
        Check.loads("letter 127", 0, m(Mod.memory(1), Mod.exports(Mod.export("\u007f", 2, 0))));
        Check.loads("letter 128", UNSUPPORTED, m(Mod.memory(1), Mod.exports(Mod.export("\u0080", 9, 0))));
        Check.loads("kind 4", MALFORMED, m(Mod.memory(1), Mod.exports(Mod.export("a", 4, 0))));
        Check.loads("kind 1", INVALID, m(Mod.memory(1), Mod.exports(Mod.export("a", 1, 0))));
    }

    private static void data() {
        int[] one = Mod.dataAt(0, 1);
        Check.loads("4 data", 0, m(Mod.memory(1), Mod.data(one, one, one, one)));
        Check.loads("5 data", UNSUPPORTED, m(Mod.memory(1), Mod.data(one, one, one, one, one)));
        Check.loads("a place of a global", MALFORMED, m(Mod.memory(1), Mod.globals(Mod.global(0, 1)),
            Mod.section(11, Mod.b(1, 0, 35, 0, 11, 0))));
        Check.loads("a place without end", MALFORMED, m(Mod.memory(1), Mod.section(11, Mod.b(1, 0, 65, 0, 0, 0))));
        Check.loads("data behind which more stands", MALFORMED, m(Mod.memory(1), Mod.section(11, Mod.b(1), one, Mod.b(0))));
    }

    private static void locals() {
        int[] type = Mod.types(Mod.type(4, 0));
        Check.loads("12 locals", 0, m(type, FUNCTION, Mod.code(Mod.body(8))));
        Check.loads("13 locals", UNSUPPORTED, m(type, FUNCTION, Mod.code(Mod.body(9))));
        Check.loads("12 locals in rows", 0, m(type, FUNCTION,
            Mod.code(Mod.rawBody(Mod.b(4, 3, 127, 0, 127, 4, 127, 1, 127, 11)))));
        Check.loads("13 locals in rows", UNSUPPORTED, m(type, FUNCTION,
            Mod.code(Mod.rawBody(Mod.b(3, 3, 127, 5, 127, 1)))));
        Check.loads("great numbers of locals", UNSUPPORTED, m(type, FUNCTION,
            Mod.code(Mod.rawBody(Mod.b(2, 1, 127, 255, 255, 255, 255, 15)))));
        Check.loads("numbers that wrap around", UNSUPPORTED, m(type, FUNCTION,
            Mod.code(Mod.rawBody(Mod.b(2, 8, 127, 248, 255, 255, 255, 15, 127, 11)))));
        Check.loads("12 locals without a type", INVALID, m(type, Mod.functions(1), Mod.code(Mod.body(12))));
        Check.loads("13 locals without a type", UNSUPPORTED, m(type, Mod.functions(1), Mod.code(Mod.body(13))));
        Check.loads("an i64 local", UNSUPPORTED, m(type, FUNCTION, Mod.code(Mod.rawBody(Mod.b(1, 1, 126, 11)))));
        Check.loads("many rows of none", 0, m(type, FUNCTION,
            Mod.code(Mod.rawBody(Mod.b(90), Mod.repeat(90, 0, 127), Mod.b(11)))));
        Check.loads("more rows than there are", MALFORMED, m(type, FUNCTION,
            Mod.code(Mod.rawBody(Mod.b(255, 255, 255, 255, 15), Mod.repeat(50, 0, 127)))));
    }

    private static void instructions() {
        for (int op = 0; op < 256; op++) {
            boolean known = op <= 5 || op >= 11 && op <= 16 || op == 26 || op == 27 || op >= 32 && op <= 36 || op == 40
                || op >= 44 && op <= 47 || op == 54 || op == 58 || op == 59 || op >= 63 && op <= 65
                || op >= 69 && op <= 79 || op >= 103 && op <= 120;
            Check.due("instruction " + op + " is UNSUPPORTED", Check.fed(inBody(0, op)).load() == UNSUPPORTED, !known);
        }
        Check.loads("memory.size 1", MALFORMED, inBody(0, 63, 1, 26, 11));
        Check.loads("memory.grow 1", MALFORMED, inBody(0, 64, 1, 26, 11));
        int[] places = Mod.cat(Mod.b(14, 8), Mod.repeat(9, 0));
        Check.loads("8 places", 0, m(TYPE, FUNCTION, Mod.code(Mod.body(0, Mod.con(0), places))));
        Check.loads("9 places", UNSUPPORTED, inBody(0, 14, 9));
        Check.loads("-1 places", UNSUPPORTED, inBody(0, 14, 255, 255, 255, 255, 15));
        Check.loads("a place too few", MALFORMED, inBody(0, 14, 1, 0));
        Check.loads("all bytes are read before INVALID", UNSUPPORTED,
            m(TYPE, Mod.functions(0, 0), Mod.code(Mod.body(0, Mod.b(26)), Mod.body(0, Mod.b(66)))));
        Check.loads("what stands first", MALFORMED, inBody(0, 5, 66));
        Check.loads("what stands first", UNSUPPORTED, inBody(0, 66, 5));
    }

    private static void blocks() {
        int[] ten = Mod.cat(Mod.repeat(10, 2, 64), Mod.repeat(10, 11));
        int[] eleven = Mod.cat(Mod.repeat(11, 2, 64), Mod.repeat(11, 11));
        Check.loads("10 blocks in one another", 0, m(TYPE, FUNCTION, Mod.code(Mod.body(0, ten))));
        Check.loads("twice 10 blocks", 0, m(TYPE, FUNCTION, Mod.code(Mod.body(0, ten, ten))));
        Check.loads("11 blocks in one another", UNSUPPORTED, m(TYPE, FUNCTION, Mod.code(Mod.body(0, eleven))));
        int[] early = Mod.cat(Mod.b(0), Mod.repeat(10, 3, 64), Mod.b(3));
        Check.loads("an eleventh without type", MALFORMED, m(TYPE, FUNCTION, Mod.code(Mod.rawBody(early))));
        Check.loads("a block of i64", UNSUPPORTED, inBody(0, 2, 126, 11, 11));
        Check.loads("a block of a type", UNSUPPORTED, inBody(0, 2, 0, 11, 11));
        Check.loads("an else in a body", MALFORMED, inBody(0, 5, 11));
        Check.loads("an else in a block", MALFORMED, inBody(0, 2, 64, 5, 11, 11));
        Check.loads("an else in a block in an if", MALFORMED, inBody(0, 65, 0, 4, 64, 2, 64, 5, 11, 11, 11));
        Check.loads("an else", 0, inBody(0, 65, 0, 4, 64, 5, 11, 11));
        Check.loads("a second else", MALFORMED, inBody(0, 65, 0, 4, 64, 5, 5, 11, 11));
        Check.loads("an else of an if in an else", 0, inBody(0, 65, 0, 4, 64, 5, 65, 0, 4, 64, 5, 11, 11, 11));
    }
}
