/** Promise 3, LOADING: what is INVALID, in which order it is found, and data that do not lie in the memory (4). */
public final class InvalidTest {
    private static final int UNSUPPORTED = 2;
    private static final int INVALID = 3;
    private static final int OUTSIDE = 4;
    private static final int MIN = Integer.MIN_VALUE;
    private static final int MAX = Integer.MAX_VALUE;
    private static final int[] TYPE = Mod.types(Mod.type(0, 0));
    private static final int[] FUNCTION = Mod.functions(0);
    private static final int[] WRONG = Mod.body(0, Mod.b(26));
    private static final int[] DEEP = Mod.body(0, Mod.repeat(17, 65, 1));
    private static final int[] RIGHT = Mod.body(0);

    public static void main(String[] args) {
        resultsOfTypes();
        typesOfFunctions();
        mostOfMemories();
        anyMost();
        exportsOfWhatThereIsNot();
        namesThatWereThereBefore();
        dataWithoutAMemory();
        dataOfAnotherMemory();
        order();
        bodiesInTheirOrder();
        outsideAtLast();
        placesWithoutSign();
        noneBehindTheEnd();
        inTheMemoryAsItIsAtFirst();
        Check.finish();
    }

    private static int[] m(int[]... sections) {
        return Mod.module(sections);
    }

    private static void resultsOfTypes() {
        Check.says("a type with more than one result");
        for (int results = 0; results <= 4; results++) {
            int want = results <= 1 ? 0 : INVALID;
            Check.loads(results + " results", want, m(Mod.types(Mod.type(0, results))));
            Check.loads(results + " results of the last of eight", want, m(Mod.section(1, Mod.b(8), Mod.repeat(7, 96, 0, 0),
                Mod.type(2, results))));
        }
        Check.loads("two results of what is not used", INVALID, m(Mod.types(Mod.type(0, 0), Mod.type(0, 2)), FUNCTION,
            Mod.code(RIGHT)));
    }

    private static void typesOfFunctions() {
        Check.says("a function's type that is none");
        int[] types = Mod.types(Mod.type(0, 0), Mod.type(0, 0));
        int[] indices = {0, 1, 2, 3, 8, MAX, MIN, -1};
        for (int index : indices) {
            int want = index == 0 || index == 1 ? 0 : INVALID;
            String what = "type " + Integer.toUnsignedString(index);
            Check.loads(what, want, m(types, Mod.section(3, Mod.b(1), Mod.unsigned(index)), Mod.code(RIGHT)));
            Check.loads(what + " of a second", want, m(types, Mod.section(3, Mod.b(2, 0), Mod.unsigned(index)),
                Mod.code(RIGHT, RIGHT)));
        }
        Check.loads("type 0 of none", INVALID, m(FUNCTION, Mod.code(RIGHT)));
        Check.loads("type 0 of an empty section", INVALID, m(Mod.types(), FUNCTION, Mod.code(RIGHT)));
    }

    private static void mostOfMemories() {
        Check.says("a memory whose most is below its first");
        for (int first = 0; first <= 4; first++) {
            for (int most = 0; most <= 6; most++) {
                Check.loads(first + " pages of " + most, most < first ? INVALID : 0, m(Mod.memory(first, most)));
            }
            Check.loads(first + " pages of no most", 0, m(Mod.memory(first)));
        }
    }

    private static void anyMost() {
        Check.says("(Of a memory's most any number will do.)");
        for (int most : new int[] {5, 64, 65535, 65536, 65537, MAX, MIN, -2, -1}) {
            Check.loads("a most of " + Integer.toUnsignedString(most), 0, m(Mod.memory(4, most)));
            Check.loads("no page, a most of " + Integer.toUnsignedString(most), 0, m(Mod.memory(0, most)));
        }
    }

    private static int[] exporting(int[]... exports) {
        return m(TYPE, Mod.functions(0, 0), Mod.memory(1), Mod.globals(Mod.global(0, 1), Mod.global(0, 1), Mod.global(1, 1)),
            Mod.exports(exports), Mod.code(RIGHT, RIGHT));
    }

    private static void exportsOfWhatThereIsNot() {
        Check.says("an export of what there is not");
        int[] counts = {2, 0, 1, 3};
        for (int kind = 0; kind <= 3; kind++) {
            for (int index : new int[] {0, 1, 2, 3, 4, 8, MAX, MIN, -1}) {
                boolean there = index >= 0 && index < counts[kind];
                Check.loads("export of " + kind + ", " + Integer.toUnsignedString(index), there ? 0 : INVALID,
                    exporting(Mod.export("a", kind, index)));
            }
            Check.loads("export of " + kind + ", 0 of none", INVALID, m(Mod.exports(Mod.export("a", kind, 0))));
        }
        Check.loads("memory 0 of an empty section", INVALID, m(Mod.vector(5), Mod.exports(Mod.export("a", 2, 0))));
        Check.loads("the last of eight", INVALID, exporting(Mod.export("a", 0, 0), Mod.export("b", 0, 0), Mod.export("c", 0, 0),
            Mod.export("d", 0, 0), Mod.export("e", 0, 0), Mod.export("f", 0, 0), Mod.export("g", 0, 0), Mod.export("h", 0, 2)));
    }

    private static void namesThatWereThereBefore() {
        Check.says("or a name that was there before");
        Check.loads("two names", 0, exporting(Mod.export("a", 0, 0), Mod.export("b", 0, 0)));
        Check.loads("a name twice", INVALID, exporting(Mod.export("a", 0, 0), Mod.export("a", 0, 1)));
        Check.loads("a name twice, of two kinds", INVALID, exporting(Mod.export("ab", 0, 0), Mod.export("c", 0, 0),
            Mod.export("ab", 3, 0)));
        Check.loads("an empty name", 0, exporting(Mod.export("", 0, 0)));
        Check.loads("an empty name twice", INVALID, exporting(Mod.export("", 0, 0), Mod.export("", 0, 1)));
        Check.loads("names and their beginnings", 0, exporting(Mod.export("a", 0, 0), Mod.export("ab", 0, 1),
            Mod.export("a\0", 0, 1), Mod.export("", 0, 1), Mod.export("\0", 0, 1), Mod.export("A", 0, 1)));
        Check.loads("eight letters twice", INVALID, exporting(Mod.export("abcdefgh", 0, 0), Mod.export("abcdefgi", 0, 1),
            Mod.export("abcdefgh", 0, 1)));
        for (int i = 0; i < 8; i++) {
            char[] letters = "abcdefgh".toCharArray();
            letters[i] = 'x';
            Check.loads("names with another letter " + i, 0, exporting(Mod.export("abcdefgh", 0, 0),
                Mod.export(new String(letters), 0, 0)));
        }
        int[] eight = new int[0];
        for (int i = 0; i < 7; i++) {
            eight = Mod.cat(eight, Mod.export("n" + i, 2, 0));
        }
        for (int i = 0; i <= 7; i++) {
            Check.loads("the eighth is as " + i, i < 7 ? INVALID : 0,
                m(Mod.memory(1), Mod.section(7, Mod.b(8), eight, Mod.export("n" + i, 2, 0))));
        }
    }

    private static void dataWithoutAMemory() {
        Check.says("data without a memory");
        Check.loads("data", INVALID, m(Mod.data(Mod.dataAt(0, 1))));
        Check.loads("none", INVALID, m(Mod.data(Mod.dataAt(0))));
        Check.loads("data with an empty memory section", INVALID, m(Mod.vector(5), Mod.data(Mod.dataAt(0))));
        Check.loads("no data", 0, m(Mod.data()));
        Check.loads("data behind the end of no memory", INVALID, m(Mod.data(Mod.dataAt(99, 1))));
    }

    private static void dataOfAnotherMemory() {
        Check.says("or for another one than 0");
        for (int index : new int[] {0, 1, 2, MAX, MIN, -1}) {
            int[] one = Mod.cat(Mod.unsigned(index), Mod.b(65, 0, 11, 1, 7));
            Check.loads("memory " + Integer.toUnsignedString(index), index == 0 ? 0 : INVALID,
                m(Mod.memory(1), Mod.section(11, Mod.b(1), one)));
            Check.loads("memory " + Integer.toUnsignedString(index) + " of the last", index == 0 ? 0 : INVALID,
                m(Mod.memory(1), Mod.section(11, Mod.b(4), Mod.repeat(3, Mod.dataAt(0, 1)), one)));
        }
    }

    private static void order() {
        Check.says("INVALID (3), in this order");
        Check.loads("a type, then a deep body", INVALID, m(Mod.types(Mod.type(0, 0), Mod.type(0, 3)), FUNCTION, Mod.code(DEEP)));
        Check.loads("a function's type, then a deep body", INVALID, m(TYPE, Mod.functions(0, 1), Mod.code(DEEP, RIGHT)));
        Check.loads("a memory, then a deep body", INVALID, m(TYPE, FUNCTION, Mod.memory(1, 0), Mod.code(DEEP)));
        Check.loads("an export, then a deep body", INVALID, m(TYPE, FUNCTION, Mod.exports(Mod.export("a", 0, 1)), Mod.code(DEEP)));
        Check.loads("a name, then a deep body", INVALID, m(TYPE, FUNCTION, Mod.exports(Mod.export("a", 0, 0), Mod.export("a", 0, 0)),
            Mod.code(DEEP)));
        Check.loads("a deep body, then data without a memory", UNSUPPORTED, m(TYPE, FUNCTION, Mod.code(DEEP), Mod.data(Mod.dataAt(0))));
        Check.loads("a deep body, then data for memory 1", UNSUPPORTED, m(TYPE, FUNCTION, Mod.memory(1), Mod.code(DEEP),
            Mod.section(11, Mod.b(1, 1, 65, 0, 11, 0))));
    }

    private static void bodiesInTheirOrder() {
        Check.says("UNSUPPORTED, if that is found first; bodies in their order, each up to its first fault");
        int[] two = Mod.cat(TYPE, Mod.functions(0, 0));
        Check.loads("a deep body, then a wrong one", UNSUPPORTED, m(two, Mod.code(DEEP, WRONG)));
        Check.loads("a wrong body, then a deep one", INVALID, m(two, Mod.code(WRONG, DEEP)));
        Check.loads("a right body, then a deep one", UNSUPPORTED, m(two, Mod.code(RIGHT, DEEP)));
        Check.loads("a right body, then a wrong one", INVALID, m(two, Mod.code(RIGHT, WRONG)));
        Check.loads("deep, then wrong in one body", UNSUPPORTED, m(TYPE, FUNCTION,
            Mod.code(Mod.body(0, Mod.repeat(17, 65, 1), Mod.b(32, 0)))));
        Check.loads("wrong, then deep in one body", INVALID, m(TYPE, FUNCTION,
            Mod.code(Mod.body(0, Mod.b(32, 0), Mod.repeat(17, 65, 1)))));
        int[] seven = Mod.cat(Mod.b(8), Mod.repeat(7, RIGHT));
        Check.loads("the last of eight is wrong", INVALID, m(TYPE, Mod.functions(new int[8]), Mod.section(10, seven, WRONG)));
        Check.loads("the last of eight is deep", UNSUPPORTED, m(TYPE, Mod.functions(new int[8]), Mod.section(10, seven, DEEP)));
    }

    private static void outsideAtLast() {
        Check.says("At last 4, if data");
        int[] outside = Mod.data(Mod.dataAt(64, 1));
        Check.loads("data outside", OUTSIDE, m(Mod.memory(1), outside));
        Check.loads("two results, and data outside", INVALID, m(Mod.types(Mod.type(0, 2)), Mod.memory(1), outside));
        Check.loads("a wrong body, and data outside", INVALID, m(TYPE, FUNCTION, Mod.memory(1), Mod.code(WRONG), outside));
        Check.loads("a deep body, and data outside", UNSUPPORTED, m(TYPE, FUNCTION, Mod.memory(1), Mod.code(DEEP), outside));
        Check.loads("data outside, then data for memory 1", INVALID, m(Mod.memory(1),
            Mod.section(11, Mod.b(2), Mod.dataAt(64, 1), Mod.b(1, 65, 0, 11, 0))));
        Check.loads("data for memory 1, then data outside", INVALID, m(Mod.memory(1),
            Mod.section(11, Mod.b(2, 1, 65, 0, 11, 0), Mod.dataAt(64, 1))));
        Check.loads("the last of four outside", OUTSIDE, m(Mod.memory(1),
            Mod.section(11, Mod.b(4), Mod.repeat(3, Mod.dataAt(0, 1)), Mod.dataAt(64, 1))));
        Check.loads("the first of two outside", OUTSIDE, m(Mod.memory(1), Mod.data(Mod.dataAt(64, 1), Mod.dataAt(0, 1))));
    }

    private static void at(int pages, int place, int count, int want) {
        Check.loads(count + " at " + place + " in " + pages, want,
            m(Mod.memory(pages), Mod.data(Mod.dataAt(place, Mod.repeat(count, 7)))));
    }

    private static void placesWithoutSign() {
        Check.says("(places without sign");
        for (int place : new int[] {-1, -2, -64, -256, MIN, MIN + 1, MAX, MAX - 1}) {
            for (int count : new int[] {0, 1, 2, 64}) {
                at(1, place, count, OUTSIDE);
                at(4, place, count, OUTSIDE);
            }
        }
    }

    private static void noneBehindTheEnd() {
        Check.says("also none, behind the memory's end)");
        for (int pages = 0; pages <= 4; pages++) {
            int end = pages * 64;
            at(pages, end, 0, 0);
            at(pages, end + 1, 0, OUTSIDE);
            at(pages, 0, 0, 0);
            at(pages, 257, 0, OUTSIDE);
        }
    }

    private static void inTheMemoryAsItIsAtFirst() {
        Check.says("do not lie in the memory as it is at first");
        for (int pages = 0; pages <= 4; pages++) {
            int end = pages * 64;
            for (int count : new int[] {1, 2, 63, 64, 65, 128, 200}) {
                at(pages, 0, count, count <= end ? 0 : OUTSIDE);
                at(pages, end, count, OUTSIDE);
                if (count <= end) {
                    at(pages, end - count, count, 0);
                    at(pages, end - count + 1, count, OUTSIDE);
                }
            }
        }
        Check.loads("a byte in a page that could come", OUTSIDE, m(Mod.memory(1, 4), Mod.data(Mod.dataAt(64, 1))));
        Check.loads("a byte over the end, of a memory that could grow", OUTSIDE, m(Mod.memory(1, 4), Mod.data(Mod.dataAt(63, 1, 2))));
    }
}
