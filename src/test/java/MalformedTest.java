import java.util.Arrays;

/** Promise 3, LOADING: each thing that is MALFORMED (numbers are in NumbersTest), and that the first thing decides. */
public final class MalformedTest {
    private static final int MALFORMED = 1;
    private static final int UNSUPPORTED = 2;
    private static final int[] SUPPORTED = {1, 3, 5, 6, 7, 10, 11};
    private static final int[] TYPE = Mod.types(Mod.type(0, 0));
    private static final int[] FUNCTION = Mod.functions(0);

    /** All sections that there are, with all that stands in them. */
    private static final int[][] SECTIONS = {
        Mod.types(Mod.type(1, 1), Mod.type(0, 0)), Mod.functions(0, 1), Mod.memory(1, 2),
        Mod.globals(Mod.global(0, 1), Mod.global(1, -300)), Mod.exports(Mod.export("ab", 0, 1), Mod.export("", 3, 0)),
        Mod.code(Mod.body(2, Mod.b(32, 0, 4, 127, 65, 1, 5, 65, 2, 11)), Mod.body(0, Mod.b(2, 64, 65, 1, 14, 1, 0, 1, 11))),
        Mod.data(Mod.dataAt(1, 7, 8), Mod.dataAt(3, 9))};

    public static void main(String[] args) {
        header();
        theModuleEndsTooEarly();
        aSectionEndsTooEarly();
        aBodyEndsTooEarly();
        sectionsAboveEleven();
        sectionsNotAfterTheOneBefore();
        sectionsNotAsLongAsTheySay();
        sectionLengthsBeyondWhatIsLeft();
        bodyLengthsBeyondWhatIsLeft();
        dataLengthsBeyondWhatIsLeft();
        bytesThatTheFormatDoesNotAllow();
        bytesBehindMemorySizeAndGrow();
        initialValuesOfGlobals();
        placesOfData();
        bodiesThatDoNotEndWhereTheySay();
        elses();
        asManyBodiesAsFunctions();
        bodiesAtTheModulesEnd();
        theFirstThingDecides();
        malformedComesFirst();
        Check.finish();
    }

    private static int[] m(int[]... sections) {
        return Mod.module(sections);
    }

    /** A module with one body, all of whose bytes are told. */
    private static int[] inBody(int... bytes) {
        return m(TYPE, FUNCTION, Mod.code(Mod.rawBody(bytes)));
    }

    private static int[] all() {
        return m(SECTIONS);
    }

    /** A section with a part of its own bytes, which its length says rightly. */
    private static int[] cut(int[] section, int length) {
        return Mod.section(section[0], Arrays.copyOfRange(section, 2, 2 + length));
    }

    private static int[] with(int at, int[] section) {
        int[][] sections = SECTIONS.clone();
        sections[at] = section;
        return m(sections);
    }

    private static void header() {
        Check.says("the bytes 0 97 115 109 1 0 0 0 do not stand first");
        Check.loads("a header alone", 0, m());
        Check.loads("all sections", 0, all());
        for (int at = 0; at < 8; at++) {
            for (int other = 0; other < 256; other++) {
                int[] module = m();
                boolean right = module[at] == other;
                module[at] = other;
                Check.loads("byte " + other + " at " + at, right ? 0 : MALFORMED, module);
            }
        }
        Check.loads("a byte before it", MALFORMED, Mod.cat(Mod.b(0), m()));
        Check.loads("a section before it", MALFORMED, Mod.cat(TYPE, m()));
    }

    private static void theModuleEndsTooEarly() {
        Check.says("something ends too early (the module");
        int[] module = all();
        boolean[] whole = new boolean[module.length];
        int end = 8;
        whole[end] = true;
        for (int[] section : SECTIONS) {
            end += section.length;
            // Behind the functions' section bodies are missing, up to the end of the code's.
            if (end < module.length && section[0] != 3 && section[0] != 5 && section[0] != 6 && section[0] != 7) {
                whole[end] = true;
            }
        }
        for (int length = 0; length < module.length; length++) {
            Check.loads("the first " + length, whole[length] ? 0 : MALFORMED, Arrays.copyOf(module, length));
        }
    }

    private static void aSectionEndsTooEarly() {
        Check.says("something ends too early (the module, a section");
        for (int i = 0; i < SECTIONS.length; i++) {
            int length = SECTIONS[i].length - 2;
            Check.loads("section " + SECTIONS[i][0] + ", all of it", 0, with(i, cut(SECTIONS[i], length)));
            for (int part = 0; part < length; part++) {
                Check.loads("section " + SECTIONS[i][0] + ", " + part, MALFORMED, with(i, cut(SECTIONS[i], part)));
                int[] said = SECTIONS[i].clone();
                said[1] = part;
                Check.loads("section " + SECTIONS[i][0] + " that says " + part, MALFORMED, with(i, said));
            }
        }
    }

    private static void aBodyEndsTooEarly() {
        Check.says("something ends too early (the module, a section, a body)");
        int[] body = {1, 2, 127, 32, 0, 4, 64, 65, 1, 26, 11, 2, 64, 65, 0, 40, 2, 3, 14, 0, 1, 11, 63, 0, 26, 11};
        int[][] before = {Mod.types(Mod.type(1, 0)), Mod.functions(0, 0), Mod.memory(1)};
        int[] other = Mod.rawBody(Mod.b(0, 11));
        Check.loads("a body, all of it", 0, m(Mod.cat(before), Mod.code(Mod.rawBody(body), other)));
        for (int part = 0; part < body.length; part++) {
            Check.loads("a body, " + part, MALFORMED,
                m(Mod.cat(before), Mod.code(Mod.rawBody(Arrays.copyOf(body, part)), other)));
            Check.loads("a body that says " + part, MALFORMED, m(Mod.cat(before), Mod.code(Mod.cat(Mod.b(part), body), other)));
        }
    }

    private static void sectionsAboveEleven() {
        Check.says("a section that is above 11");
        Check.loads("section 11", 0, m(Mod.section(11, Mod.b(0))));
        for (int id = 12; id < 256; id++) {
            Check.loads("section " + id, MALFORMED, m(Mod.section(id, Mod.b(0))));
            Check.loads("section " + id + " behind 11", MALFORMED, m(Mod.section(11, Mod.b(0)), Mod.section(id, Mod.b(0))));
        }
    }

    private static void sectionsNotAfterTheOneBefore() {
        Check.says("not after the one before it (so 0 behind any)");
        for (int first : SUPPORTED) {
            for (int id = 0; id <= 11; id++) {
                int want = id <= first ? MALFORMED : Arrays.binarySearch(SUPPORTED, id) >= 0 ? 0 : UNSUPPORTED;
                Check.loads("section " + id + " behind " + first, want, m(Mod.section(first, Mod.b(0)), Mod.section(id, Mod.b(0))));
            }
        }
        Check.loads("section 1 behind 3 and 5", MALFORMED, m(Mod.functions(), Mod.vector(5), Mod.types()));
        Check.loads("section 3 behind 1 and 5", MALFORMED, m(Mod.types(), Mod.vector(5), Mod.functions()));
    }

    private static void sectionsNotAsLongAsTheySay() {
        Check.says("or not just as long as it says");
        for (int i = 0; i < SECTIONS.length; i++) {
            int[] content = Arrays.copyOfRange(SECTIONS[i], 2, SECTIONS[i].length);
            for (int more : new int[] {0, 1, 11, 12, 127}) {
                Check.loads("section " + SECTIONS[i][0] + " with " + more + " more", MALFORMED,
                    with(i, Mod.section(SECTIONS[i][0], content, Mod.b(more))));
            }
        }
        for (int id : SUPPORTED) {
            Check.loads("an empty section " + id, 0, m(Mod.section(id, Mod.b(0))));
            Check.loads("section " + id + " of no byte", MALFORMED, m(Mod.section(id)));
            Check.loads("an empty section " + id + " of two bytes", MALFORMED, m(Mod.section(id, Mod.b(0, 0))));
        }
    }

    private static void sectionLengthsBeyondWhatIsLeft() {
        Check.says("(a length of a section, body or data beyond what is left: at the length)");
        for (int id : SUPPORTED) {
            // Ten of anything are refused when they have been read; so 1 tells that the length was looked at before.
            int tooMany = id == 10 ? MALFORMED : UNSUPPORTED;
            Check.loads("section " + id + " of what is left", tooMany, m(Mod.b(id, 1, 10)));
            Check.loads("section " + id + " of one more", MALFORMED, m(Mod.b(id, 2, 10)));
            Check.loads("section " + id + " of 2^31", MALFORMED, m(Mod.b(id, 128, 128, 128, 128, 8, 10)));
            Check.loads("section " + id + " of 2^32 - 1", MALFORMED, m(Mod.b(id, 255, 255, 255, 255, 15, 10)));
            Check.loads("section " + id + " without a length", MALFORMED, m(Mod.b(id)));
        }
    }

    private static void bodyLengthsBeyondWhatIsLeft() {
        Check.says("a length of a section, body or data beyond what is left");
        int[] before = Mod.cat(TYPE, Mod.functions(0, 0));
        // The body begins with 13 locals, which is UNSUPPORTED: so 1 tells that the length was looked at before.
        Check.loads("a body of what is left", UNSUPPORTED, m(before, Mod.section(10, Mod.b(2, 2, 1, 13))));
        Check.loads("a body of one more", MALFORMED, m(before, Mod.section(10, Mod.b(2, 3, 1, 13))));
        Check.loads("a body of one more, with a section behind", MALFORMED,
            m(before, Mod.section(10, Mod.b(2, 3, 1, 13)), Mod.data()));
        Check.loads("a body of 2^32 - 1", MALFORMED, m(before, Mod.section(10, Mod.b(2, 255, 255, 255, 255, 15, 1, 13))));
        Check.loads("a second body of one more", MALFORMED, m(before, Mod.section(10, Mod.b(2, 2, 0, 11, 3, 1, 13))));
        Check.loads("a second body of what is left", UNSUPPORTED, m(before, Mod.section(10, Mod.b(2, 2, 0, 11, 2, 1, 13))));
    }

    private static void dataLengthsBeyondWhatIsLeft() {
        Check.says("a length of a section, body or data beyond what is left");
        int[] memory = Mod.memory(1);
        Check.loads("data of what is left", 0, m(memory, Mod.section(11, Mod.b(1, 0, 65, 0, 11, 2, 1, 1))));
        Check.loads("data of one more", MALFORMED, m(memory, Mod.section(11, Mod.b(1, 0, 65, 0, 11, 3, 1, 1))));
        Check.loads("data of one less", MALFORMED, m(memory, Mod.section(11, Mod.b(1, 0, 65, 0, 11, 1, 1, 1))));
        Check.loads("data of one more, with a byte behind the section", MALFORMED,
            m(memory, Mod.section(11, Mod.b(1, 0, 65, 0, 11, 3, 1, 1)), Mod.b(1)));
        Check.loads("data of 2^31", MALFORMED, m(memory, Mod.section(11, Mod.b(1, 0, 65, 0, 11, 128, 128, 128, 128, 8, 1))));
        Check.loads("data of 2^32 - 1", MALFORMED, m(memory, Mod.section(11, Mod.b(1, 0, 65, 0, 11, 255, 255, 255, 255, 15, 1))));
        Check.loads("data of 2^32 - 1, and then none is left", MALFORMED,
            m(memory, Mod.section(11, Mod.b(1, 0, 65, 0, 11, 255, 255, 255, 255, 15))));
        Check.loads("data over others", MALFORMED,
            m(memory, Mod.section(11, Mod.b(2, 0, 65, 0, 11, 6, 0, 65, 0, 11, 1, 1))));
    }

    private static void bytesThatTheFormatDoesNotAllow() {
        Check.says("a byte that the format does not allow where it stands (96 before a type; 0 or 1 of limits and of what can be changed; 0 .. 3 of exports");
        int[] memory = Mod.memory(1);
        for (int other = 0; other < 256; other++) {
            Check.loads("byte " + other + " before a type", other == 96 ? 0 : MALFORMED,
                m(Mod.section(1, Mod.b(1, other, 0, 0))));
            Check.loads("byte " + other + " before a second type", other == 96 ? 0 : MALFORMED,
                m(Mod.section(1, Mod.b(2, 96, 0, 0, other, 0, 0))));
            Check.loads("byte " + other + " of limits", other <= 1 ? 0 : MALFORMED,
                m(Mod.section(5, Mod.b(1, other, 1), other == 1 ? Mod.b(1) : Mod.b())));
            Check.loads("byte " + other + " of a global", other <= 1 ? 0 : MALFORMED,
                m(Mod.section(6, Mod.b(1, 127, other, 65, 0, 11))));
            int known = other == 2 ? 0 : other <= 3 ? 3 : MALFORMED;
            Check.loads("byte " + other + " of an export", known, m(memory, Mod.section(7, Mod.b(1, 1, 97, other, 0))));
        }
    }

    private static void bytesBehindMemorySizeAndGrow() {
        Check.says("0 behind memory.size and memory.grow)");
        int[] before = Mod.cat(TYPE, FUNCTION, Mod.memory(1));
        for (int other = 0; other < 256; other++) {
            Check.loads("memory.size " + other, other == 0 ? 0 : MALFORMED,
                m(before, Mod.code(Mod.body(0, Mod.b(63, other, 26)))));
            Check.loads("memory.grow " + other, other == 0 ? 0 : MALFORMED,
                m(before, Mod.code(Mod.body(0, Mod.b(65, 0, 64, other, 26)))));
        }
        Check.loads("memory.size with 0 as a number of two bytes", MALFORMED,
            m(before, Mod.code(Mod.body(0, Mod.b(63, 128, 0, 26)))));
        Check.loads("memory.size of none", MALFORMED, m(before, Mod.code(Mod.rawBody(Mod.b(0, 63)))));
    }

    private static void initialValuesOfGlobals() {
        Check.says("an initial value of a global, or a place of data, that is other than 65, a number, 11");
        for (int other = 0; other < 256; other++) {
            Check.loads("a global of " + other, other == 65 ? 0 : MALFORMED, m(Mod.section(6, Mod.b(1, 127, 0, other, 0, 11))));
            Check.loads("a global that ends by " + other, other == 11 ? 0 : MALFORMED,
                m(Mod.section(6, Mod.b(1, 127, 0, 65, 0, other))));
        }
        Check.loads("a global of another one", MALFORMED,
            m(Mod.section(6, Mod.b(2, 127, 0, 65, 0, 11, 127, 0, 35, 0, 11))));
        Check.loads("a global of nothing", MALFORMED, m(Mod.section(6, Mod.b(1, 127, 0, 11))));
        Check.loads("a global of two numbers", MALFORMED, m(Mod.section(6, Mod.b(1, 127, 0, 65, 0, 65, 0, 11))));
        Check.loads("a global of a sum", MALFORMED, m(Mod.section(6, Mod.b(1, 127, 0, 65, 0, 65, 0, 106, 11))));
        Check.loads("a global of nop and a number", MALFORMED, m(Mod.section(6, Mod.b(1, 127, 0, 1, 65, 0, 11))));
    }

    private static void placesOfData() {
        Check.says("or a place of data, that is other than 65, a number, 11");
        int[] memory = Mod.cat(Mod.memory(1), Mod.globals(Mod.global(0, 1)));
        for (int other = 0; other < 256; other++) {
            Check.loads("a place of " + other, other == 65 ? 0 : MALFORMED,
                m(memory, Mod.section(11, Mod.b(1, 0, other, 0, 11, 0))));
            Check.loads("a place that ends by " + other, other == 11 ? 0 : MALFORMED,
                m(memory, Mod.section(11, Mod.b(1, 0, 65, 0, other, 0))));
        }
        Check.loads("a place of nothing", MALFORMED, m(memory, Mod.section(11, Mod.b(1, 0, 11, 0))));
        Check.loads("a place of two numbers", MALFORMED, m(memory, Mod.section(11, Mod.b(1, 0, 65, 0, 65, 0, 11, 0))));
    }

    private static void bodiesThatDoNotEndWhereTheySay() {
        Check.says("a body that does not end just where it says, by the end that belongs to it");
        Check.loads("a body", 0, inBody(0, 11));
        Check.loads("a body of no byte", MALFORMED, inBody());
        Check.loads("a body without end", MALFORMED, inBody(0));
        Check.loads("a body that nop ends", MALFORMED, inBody(0, 1));
        Check.loads("a body with nop behind its end", MALFORMED, inBody(0, 11, 1));
        Check.loads("a body with two ends", MALFORMED, inBody(0, 11, 11));
        Check.loads("a body with what is UNSUPPORTED behind its end", MALFORMED, inBody(0, 11, 66));
        Check.loads("a block without end", MALFORMED, inBody(0, 2, 64, 11));
        Check.loads("a loop without end", MALFORMED, inBody(0, 2, 64, 3, 64, 11, 11));
        Check.loads("an if without end", MALFORMED, inBody(0, 65, 0, 4, 64, 5, 11));
        Check.loads("a block with its end", 0, inBody(0, 2, 64, 11, 11));
        Check.loads("a number that looks like the end", MALFORMED, inBody(0, 65, 11));
        Check.loads("a body that says too little", MALFORMED,
            m(TYPE, Mod.functions(0, 0), Mod.section(10, Mod.b(2, 1, 0, 11, 2, 0, 11))));
        Check.loads("a body that says so much that the next one lies in it", MALFORMED,
            m(TYPE, Mod.functions(0, 0), Mod.section(10, Mod.b(2, 5, 0, 11, 2, 0, 11))));
        Check.loads("two bodies that say it rightly", 0,
            m(TYPE, Mod.functions(0, 0), Mod.section(10, Mod.b(2, 2, 0, 11, 2, 0, 11))));
    }

    private static void elses() {
        Check.says("an else that has no if, or a second one");
        Check.loads("if and else", 0, inBody(0, 65, 0, 4, 64, 5, 11, 11));
        Check.loads("an else in a body", MALFORMED, inBody(0, 5, 11));
        Check.loads("an else in a block", MALFORMED, inBody(0, 2, 64, 5, 11, 11));
        Check.loads("an else in a loop", MALFORMED, inBody(0, 3, 64, 5, 11, 11));
        Check.loads("an else in a block in an if", MALFORMED, inBody(0, 65, 0, 4, 64, 2, 64, 5, 11, 11, 11));
        Check.loads("an else behind an if's end", MALFORMED, inBody(0, 65, 0, 4, 64, 11, 5, 11));
        Check.loads("a second else", MALFORMED, inBody(0, 65, 0, 4, 64, 5, 5, 11, 11));
        Check.loads("a second else later", MALFORMED, inBody(0, 65, 0, 4, 64, 1, 5, 2, 64, 11, 5, 11, 11));
        Check.loads("an else in a block in an else", MALFORMED, inBody(0, 65, 0, 4, 64, 5, 2, 64, 5, 11, 11, 11));
        Check.loads("if and else in an else", 0, inBody(0, 65, 0, 4, 64, 5, 65, 0, 4, 64, 5, 11, 11, 11));
        Check.loads("if and else in an if and its else", 0, inBody(0, 65, 0, 4, 64, 65, 0, 4, 64, 5, 11, 5, 11, 11));
        Check.loads("an else where it cannot be come to", MALFORMED, inBody(0, 0, 5, 11));
        Check.loads("another body's if", MALFORMED, m(TYPE, Mod.functions(0, 0),
            Mod.code(Mod.body(0, Mod.b(65, 0, 4, 64, 11)), Mod.body(0, Mod.b(5)))));
    }

    private static int[] bodies(int functions, int count) {
        int[] body = Mod.body(0);
        return m(TYPE, Mod.functions(new int[functions]), Mod.section(10, Mod.b(count), Mod.repeat(count, body)));
    }

    private static void asManyBodiesAsFunctions() {
        Check.says("as many bodies as functions there are not (at their count");
        for (int functions = 0; functions <= 8; functions++) {
            for (int count = 0; count <= 10; count++) {
                Check.loads(count + " bodies of " + functions + " functions", count == functions ? 0 : MALFORMED,
                    bodies(functions, count));
            }
        }
        // A body that is UNSUPPORTED stands behind the count: so 1 tells that the count was looked at before.
        int[] wrong = Mod.rawBody(Mod.b(0, 66, 0, 11));
        Check.loads("one body of one", UNSUPPORTED, m(TYPE, FUNCTION, Mod.code(wrong)));
        Check.loads("one body of two", MALFORMED, m(TYPE, Mod.functions(0, 0), Mod.code(wrong)));
        Check.loads("two bodies of one", MALFORMED, m(TYPE, FUNCTION, Mod.code(wrong, wrong)));
        Check.loads("a body without functions", MALFORMED, m(Mod.code(wrong)));
        Check.loads("2^32 - 1 bodies", MALFORMED, m(TYPE, FUNCTION, Mod.section(10, Mod.b(255, 255, 255, 255, 15))));
    }

    private static void bodiesAtTheModulesEnd() {
        Check.says("without a code section: none, at the module's end)");
        Check.loads("a function without code", MALFORMED, m(TYPE, FUNCTION));
        Check.loads("eight functions without code", MALFORMED, m(TYPE, Mod.functions(new int[8])));
        Check.loads("no function without code", 0, m(TYPE, Mod.functions()));
        Check.loads("no functions' section without code", 0, m(TYPE));
        Check.loads("a function without code, with data", MALFORMED, m(TYPE, FUNCTION, Mod.memory(1), Mod.data()));
        Check.loads("a function without code, then section 9", UNSUPPORTED, m(TYPE, FUNCTION, Mod.b(9)));
        Check.loads("a function without code, then five data", UNSUPPORTED, m(TYPE, FUNCTION, Mod.section(11, Mod.b(5))));
        Check.loads("a function without code, INVALID things too", MALFORMED, m(FUNCTION, Mod.memory(2, 1)));
    }

    private static void theFirstThingDecides() {
        Check.says("reads all bytes first, in their order; the first thing that will not do decides");
        int[] malformed = Mod.b(5);
        int[] unsupported = Mod.b(66);
        Check.loads("MALFORMED, then UNSUPPORTED", MALFORMED, inBody(Mod.cat(Mod.b(0), malformed, unsupported, Mod.b(11))));
        Check.loads("UNSUPPORTED, then MALFORMED", UNSUPPORTED, inBody(Mod.cat(Mod.b(0), unsupported, malformed, Mod.b(11))));
        Check.loads("an i64 type, then no code", UNSUPPORTED, m(Mod.section(1, Mod.b(1, 96, 1, 126, 0)), FUNCTION));
        Check.loads("95 before a type, then five pages", MALFORMED, m(Mod.section(1, Mod.b(1, 95, 0, 0)), Mod.memory(5)));
        Check.loads("five pages, then limits 2", UNSUPPORTED, m(Mod.memory(5), Mod.section(6, Mod.b(1, 127, 2, 65, 0, 11))));
        Check.loads("INVALID, then UNSUPPORTED", UNSUPPORTED,
            m(TYPE, Mod.functions(0, 0), Mod.code(Mod.body(0, Mod.b(26)), Mod.body(0, unsupported))));
        Check.loads("INVALID, then MALFORMED", MALFORMED,
            m(Mod.types(Mod.type(0, 2)), Mod.memory(2, 1), Mod.section(11, Mod.b(0, 0))));
        Check.loads("data outside, then MALFORMED", MALFORMED, m(Mod.memory(1), Mod.data(Mod.dataAt(64, 1)), Mod.b(0)));
        Check.loads("17 operands, then MALFORMED", MALFORMED,
            m(TYPE, FUNCTION, Mod.code(Mod.body(0, Mod.repeat(17, 65, 0))), Mod.b(0)));
    }

    private static void malformedComesFirst() {
        Check.says("(at one and the same byte or number MALFORMED comes first)");
        Check.loads("section 2, not after 3", MALFORMED, m(Mod.functions(), Mod.b(2)));
        Check.loads("section 12", MALFORMED, m(Mod.b(12)));
        Check.loads("nine bodies of one", MALFORMED, m(TYPE, FUNCTION, Mod.section(10, Mod.b(9))));
        Check.loads("a count that is too great and no number", MALFORMED, m(Mod.section(1, Mod.b(255, 255, 255, 255, 31))));
        Check.loads("locals that are too many and no number", MALFORMED, inBody(1, 255, 255, 255, 255, 31, 127, 11));
        Check.loads("letters that are too many and no number", MALFORMED, m(Mod.section(7, Mod.b(1, 255, 255, 255, 255, 31))));
        Check.loads("places that are too many and no number", MALFORMED, inBody(0, 65, 0, 14, 255, 255, 255, 255, 31, 11));
        Check.loads("pages that are too many and no number", MALFORMED, m(Mod.section(5, Mod.b(1, 0, 255, 255, 255, 255, 31))));
        Check.loads("an eleventh block without its type", MALFORMED, inBody(Mod.cat(Mod.b(0), Mod.repeat(10, 2, 64), Mod.b(2))));
    }
}
