/** Promise 3: what is INVALID, which stacks are UNSUPPORTED, and data that lie outside (4). */
public final class ValidateTest {
    private static final int UNSUPPORTED = 2;
    private static final int INVALID = 3;
    private static final int OUTSIDE = 4;

    public static void main(String[] args) {
        declarations();
        exports();
        operands();
        blocks();
        branches();
        indices();
        accesses();
        deepStacks();
        order();
        data();
        Check.finish();
    }

    /** One function with memory and two globals, of which the second changes. */
    private static int[] f(int parameters, int results, int locals, int... instructions) {
        return Mod.module(Mod.types(Mod.type(parameters, results)), Mod.functions(0), Mod.memory(1),
            Mod.globals(Mod.global(0, 1), Mod.global(1, 1)), Mod.code(Mod.body(locals, instructions)));
    }

    private static void valid(String what, int results, int... instructions) {
        Check.loads(what, 0, f(0, results, 0, instructions));
    }

    private static void invalid(String what, int results, int... instructions) {
        Check.loads(what, INVALID, f(0, results, 0, instructions));
    }

    private static void declarations() {
        Check.loads("two results, not used", INVALID, Mod.module(Mod.types(Mod.type(0, 0), Mod.type(0, 2))));
        Check.loads("no such type", INVALID, Mod.module(Mod.types(Mod.type(0, 0)), Mod.functions(1),
            Mod.code(Mod.body(0))));
        Check.loads("type -1", INVALID, Mod.module(Mod.types(Mod.type(0, 0)),
            Mod.section(3, Mod.b(1, 255, 255, 255, 255, 15)), Mod.code(Mod.body(0))));
        Check.loads("no types", INVALID, Mod.module(Mod.functions(0), Mod.code(Mod.body(0))));
        Check.loads("most 0 below first 1", INVALID, Mod.module(Mod.memory(1, 0)));
        Check.loads("most 2^31", 0, Mod.module(Mod.memory(1, Integer.MIN_VALUE)));
    }

    private static int[] exporting(int[]... exports) {
        return Mod.module(Mod.types(Mod.type(0, 0)), Mod.functions(0, 0), Mod.memory(1), Mod.globals(Mod.global(0, 1)),
            Mod.exports(exports), Mod.code(Mod.body(0), Mod.body(0)));
    }

    private static void exports() {
        Check.loads("function 1", 0, exporting(Mod.export("a", 0, 1)));
        Check.loads("function 2", INVALID, exporting(Mod.export("a", 0, 2)));
        Check.loads("function -1", INVALID, exporting(Mod.export("a", 0, -1)));
        Check.loads("table 0", INVALID, exporting(Mod.export("a", 1, 0)));
        Check.loads("memory 0", 0, exporting(Mod.export("a", 2, 0)));
        Check.loads("memory 1", INVALID, exporting(Mod.export("a", 2, 1)));
        Check.loads("memory 0 of none", INVALID, Mod.module(Mod.exports(Mod.export("a", 2, 0))));
        Check.loads("global 0", 0, exporting(Mod.export("a", 3, 0)));
        Check.loads("global 1", INVALID, exporting(Mod.export("a", 3, 1)));
        Check.loads("one thing by two names", 0, exporting(Mod.export("a", 0, 0), Mod.export("b", 0, 0)));
        Check.loads("one name twice", INVALID, exporting(Mod.export("ab", 0, 0), Mod.export("c", 0, 0),
            Mod.export("ab", 3, 0)));
        Check.loads("no letters twice", INVALID, exporting(Mod.export("", 0, 0), Mod.export("", 0, 1)));
        Check.loads("a name and its beginning", 0, exporting(Mod.export("a", 0, 0), Mod.export("ab", 0, 1),
            Mod.export("a\0", 0, 1), Mod.export("", 0, 1)));
        Check.loads("names that end alike", INVALID, exporting(Mod.export("abcdefgh", 0, 0),
            Mod.export("abcdefgi", 0, 1), Mod.export("abcdefgh", 0, 1)));
    }

    private static void operands() {
        int[][] one = {{26}, {33, 0}, {34, 0, 26}, {36, 1}, {40, 0, 0, 26}, {44, 0, 0, 26}, {45, 0, 0, 26}, {46, 0, 0, 26},
            {47, 0, 0, 26}, {64, 0, 26}, {69, 26}, {103, 26}, {104, 26}, {105, 26}, {4, 64, 11}, {13, 0}, {14, 0, 0}};
        for (int[] bytes : one) {
            Check.loads("one operand for " + bytes[0], 0, f(0, 0, 1, Mod.cat(Mod.con(1), bytes)));
            Check.loads("no operand for " + bytes[0], INVALID, f(0, 0, 1, bytes));
        }
        for (int op = 70; op <= 120; op++) {
            if (op <= 79 || op >= 106) {
                Check.loads("two operands for " + op, 0, f(0, 1, 0, 65, 1, 65, 2, op));
                Check.loads("one operand for " + op, INVALID, f(0, 1, 0, 65, 1, op));
                Check.loads("three operands for " + op, INVALID, f(0, 1, 0, 65, 1, 65, 1, 65, 2, op));
            }
        }
        for (int op : new int[] {54, 58, 59}) {
            valid("two operands for " + op, 0, 65, 1, 65, 1, op, 0, 0);
            invalid("one operand for " + op, 0, 65, 1, op, 0, 0);
            invalid("no result of " + op, 1, 65, 1, 65, 1, op, 0, 0);
        }
        valid("select", 1, 65, 1, 65, 2, 65, 3, 27);
        invalid("select of two", 1, 65, 1, 65, 2, 27);
        invalid("an operand too many", 0, 65, 1);
        invalid("a result too few", 1, 1);
        invalid("a result too many", 1, 65, 1, 65, 1);
        valid("memory.size", 1, 63, 0);
    }

    private static void blocks() {
        valid("a block's result", 1, 2, 127, 65, 1, 11);
        invalid("a block without its result", 1, 2, 127, 11);
        invalid("a block with a result that it has not", 0, 2, 64, 65, 1, 11);
        invalid("a block that takes an operand from outside", 0, 65, 1, 2, 64, 26, 11);
        valid("a loop's result", 1, 3, 127, 65, 1, 11);
        valid("if and else", 1, 65, 0, 4, 127, 65, 1, 5, 65, 2, 11);
        invalid("an if without else gives no result", 1, 65, 0, 4, 127, 65, 1, 11);
        invalid("also where it leads away", 1, 65, 0, 4, 127, 0, 11);
        invalid("also where it can't be come to", 1, 0, 4, 127, 0, 11);
        invalid("if without its result", 1, 65, 0, 4, 127, 5, 65, 2, 11);
        invalid("else without its result", 1, 65, 0, 4, 127, 65, 2, 5, 11);
        valid("then that leads away", 1, 65, 0, 4, 127, 0, 5, 65, 2, 11);
        invalid("else is not as unreachable as then", 1, 65, 0, 4, 127, 0, 5, 106, 11);
        valid("behind unreachable anything is there", 1, 0, 106);
        invalid("but not too much", 0, 0, 65, 1);
        invalid("nor in a block", 0, 0, 2, 64, 26, 11);
        valid("behind a block of it it goes on", 1, 0, 2, 64, 11, 106);
        valid("behind return", 1, 65, 1, 15, 27);
        invalid("behind a block that led away", 0, 2, 64, 0, 11, 26);
    }

    private static void branches() {
        valid("br to the body", 1, 65, 1, 12, 0);
        invalid("br to the body without a result", 1, 12, 0);
        valid("br with more below", 1, 65, 1, 65, 2, 12, 0);
        invalid("br to nowhere", 0, 12, 1);
        invalid("br to -1", 0, 12, 255, 255, 255, 255, 15);
        invalid("br_if to nowhere", 0, 65, 0, 13, 1);
        valid("br to a loop takes no result", 1, 3, 127, 12, 0, 11);
        invalid("br_if leaves the result of a block", 0, 2, 127, 65, 1, 65, 1, 13, 0, 26, 11, 26);
        valid("br_if with the result of a block", 0, 2, 127, 65, 1, 65, 1, 13, 0, 11, 26);
        invalid("br_if without the result of a block", 0, 2, 127, 65, 1, 13, 0, 11, 26);
        valid("br_table", 1, 2, 127, 65, 1, 65, 0, 14, 1, 0, 1, 11);
        invalid("br_table to nowhere", 0, 65, 0, 14, 1, 1, 0);
        invalid("br_table, the last to nowhere", 0, 65, 0, 14, 1, 0, 1);
        invalid("br_table to unlike ones", 1, 2, 64, 65, 1, 65, 0, 14, 1, 0, 1, 11, 65, 1);
        invalid("br_table to a loop and a block", 0, 2, 127, 3, 127, 65, 1, 65, 0, 14, 1, 0, 1, 11, 11, 26);
        invalid("br_table to unlike ones, where it can't be come to", 1, 2, 64, 0, 14, 1, 0, 1, 11, 65, 1);
        invalid("return without a result", 1, 15);
        valid("return with more below", 1, 65, 1, 65, 2, 15);
    }

    private static void indices() {
        Check.loads("local 2 of 3", 0, f(1, 1, 2, 32, 2));
        Check.loads("local 3 of 3", INVALID, f(1, 1, 2, 32, 3));
        Check.loads("local 0 of 0", INVALID, f(0, 1, 0, 32, 0));
        Check.loads("local -1", INVALID, f(1, 1, 0, 32, 255, 255, 255, 255, 15));
        Check.loads("local.set 1 of 1", INVALID, f(1, 0, 0, 65, 1, 33, 1));
        Check.loads("local.tee 1 of 1", INVALID, f(1, 1, 0, 65, 1, 34, 1));
        valid("global 1", 1, 35, 1);
        invalid("global 2", 1, 35, 2);
        valid("global.set 1", 0, 65, 1, 36, 1);
        invalid("global.set of one that stays", 0, 65, 1, 36, 0);
        invalid("global.set 2", 0, 65, 1, 36, 2);
        valid("call 0", 0, 16, 0);
        invalid("call 1", 0, 16, 1);
        int[][] types = {Mod.types(Mod.type(2, 1)), Mod.functions(0)};
        Check.loads("call with two", 0, Mod.module(types[0], types[1], Mod.code(Mod.body(0, Mod.b(65, 1, 65, 1, 16, 0)))));
        Check.loads("call with one", INVALID, Mod.module(types[0], types[1], Mod.code(Mod.body(0, Mod.b(65, 1, 16, 0)))));
    }

    private static void accesses() {
        int[] ops = {40, 44, 45, 46, 47, 54, 58, 59};
        int[] most = {2, 0, 0, 1, 1, 2, 0, 1};
        for (int i = 0; i < ops.length; i++) {
            boolean stores = ops[i] >= 54;
            for (int align = 0; align < 4; align++) {
                int[] bytes = stores ? Mod.b(65, 0, 65, 0, ops[i], align, 0) : Mod.b(65, 0, ops[i], align, 0, 26);
                Check.loads("alignment " + align + " of " + ops[i], align <= most[i] ? 0 : INVALID, f(0, 0, 0, bytes));
                Check.loads("no memory for " + ops[i], INVALID, Mod.module(Mod.types(Mod.type(0, 0)), Mod.functions(0),
                    Mod.code(Mod.body(0, bytes))));
            }
        }
        invalid("alignment -1", 1, 65, 0, 40, 255, 255, 255, 255, 15, 0);
        for (int op = 63; op <= 64; op++) {
            Check.loads("no memory for " + op, INVALID, Mod.module(Mod.types(Mod.type(0, 0)), Mod.functions(0),
                Mod.code(Mod.body(0, Mod.b(65, 0, op, 0, 26, 26)))));
        }
    }

    private static void deep(String what, int want, int count, int... instructions) {
        Check.loads(what, want, f(0, 0, 1, Mod.cat(Mod.repeat(count, 65, 1), instructions)));
    }

    private static void deepStacks() {
        int[] drops = Mod.repeat(16, 26);
        deep("16 operands", 0, 16, drops);
        deep("17 operands", UNSUPPORTED, 17, Mod.cat(Mod.b(26), drops));
        deep("17 operands before a fault", UNSUPPORTED, 17, Mod.b(36, 0));
        deep("17 operands behind a fault", INVALID, 16, Mod.b(36, 0, 65, 1, 65, 1, 65, 1));
        deep("16 operands, at a local that is none", INVALID, 16, Mod.b(32, 1));
        deep("16 operands, local.tee", 0, 16, Mod.cat(Mod.b(34, 0), drops));
        deep("16 operands, and unreachable", 0, 16, Mod.b(0));
        deep("17 operands behind unreachable", UNSUPPORTED, 0, Mod.cat(Mod.b(0), Mod.repeat(17, 65, 1)));
        deep("16 operands behind unreachable", 0, 0, Mod.cat(Mod.b(0), Mod.repeat(16, 65, 1), drops));
        deep("those that are taken as there are not on it", 0, 15, Mod.cat(Mod.b(2, 64, 0, 106, 106, 26, 11),
            Mod.repeat(15, 26)));
        deep("those that are given are on it", UNSUPPORTED, 16, Mod.cat(Mod.b(2, 64, 0, 106, 26, 11), drops));
        deep("a block's result on 16", UNSUPPORTED, 16, Mod.cat(Mod.b(2, 127, 0, 11, 26), drops));
        deep("a block's result on 15", 0, 15, Mod.cat(Mod.b(2, 127, 0, 11), drops));
        deep("br_if gives again what was not there", UNSUPPORTED, 16, Mod.cat(Mod.b(2, 127, 0, 13, 0, 11, 26), drops));
        deep("17 in blocks", UNSUPPORTED, 15, Mod.cat(Mod.b(2, 64, 65, 1, 65, 1, 26, 26, 11), Mod.repeat(15, 26)));
    }

    private static void order() {
        int[] deep = Mod.body(0, Mod.repeat(17, 65, 1));
        int[] wrong = Mod.body(0, Mod.b(26));
        int[] types = Mod.types(Mod.type(0, 0));
        Check.loads("a deep body first", UNSUPPORTED, Mod.module(types, Mod.functions(0, 0), Mod.code(deep, wrong)));
        Check.loads("a wrong body first", INVALID, Mod.module(types, Mod.functions(0, 0), Mod.code(wrong, deep)));
        Check.loads("an export before a deep body", INVALID, Mod.module(types, Mod.functions(0),
            Mod.exports(Mod.export("a", 0, 1)), Mod.code(deep)));
        Check.loads("a memory before a deep body", INVALID, Mod.module(types, Mod.functions(0), Mod.memory(1, 0),
            Mod.code(deep)));
        Check.loads("a type before a deep body", INVALID, Mod.module(Mod.types(Mod.type(0, 0), Mod.type(0, 3)),
            Mod.functions(0), Mod.code(deep)));
        Check.loads("a function's type before a deep body", INVALID, Mod.module(types, Mod.functions(0, 1),
            Mod.code(deep, Mod.body(0))));
        Check.loads("a deep body before data", UNSUPPORTED, Mod.module(types, Mod.functions(0), Mod.code(deep),
            Mod.data(Mod.dataAt(0, 1))));
        Check.loads("a wrong body before data outside", INVALID, Mod.module(types, Mod.functions(0), Mod.memory(0),
            Mod.code(wrong), Mod.data(Mod.dataAt(0, 1))));
    }

    private static void data() {
        Check.loads("data without a memory", INVALID, Mod.module(Mod.data(Mod.dataAt(0))));
        Check.loads("data for memory 1", INVALID, Mod.module(Mod.memory(1),
            Mod.section(11, Mod.b(1, 1, 65, 0, 11, 0))));
        Check.loads("data outside before data for memory 1", INVALID, Mod.module(Mod.memory(1),
            Mod.section(11, Mod.b(2), Mod.dataAt(99, 1), Mod.b(1, 65, 0, 11, 0))));
        Check.loads("data at the end", 0, Mod.module(Mod.memory(1), Mod.data(Mod.dataAt(62, 1, 2))));
        Check.loads("data over the end", OUTSIDE, Mod.module(Mod.memory(1, 4), Mod.data(Mod.dataAt(63, 1, 2))));
        Check.loads("none at the end", 0, Mod.module(Mod.memory(1), Mod.data(Mod.dataAt(64))));
        Check.loads("none behind the end", OUTSIDE, Mod.module(Mod.memory(1), Mod.data(Mod.dataAt(65))));
        Check.loads("none in no page", 0, Mod.module(Mod.memory(0), Mod.data(Mod.dataAt(0))));
        Check.loads("data at -1", OUTSIDE, Mod.module(Mod.memory(1), Mod.data(Mod.dataAt(-1, 1))));
        Check.loads("none at -1", OUTSIDE, Mod.module(Mod.memory(4), Mod.data(Mod.dataAt(-1))));
        Check.loads("data at the greatest place", OUTSIDE, Mod.module(Mod.memory(4),
            Mod.data(Mod.dataAt(Integer.MAX_VALUE, 1, 2))));
        Check.loads("more data than memory", OUTSIDE, Mod.module(Mod.memory(1),
            Mod.data(Mod.dataAt(0, Mod.repeat(65, 1)))));
        Check.loads("the second outside", OUTSIDE, Mod.module(Mod.memory(1),
            Mod.data(Mod.dataAt(0, 1), Mod.dataAt(64, 1))));
    }
}
