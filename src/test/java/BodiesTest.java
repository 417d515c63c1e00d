/** Promise 3, LOADING: bodies by the specification's algorithm, and its operand stack of at most 16. */
public final class BodiesTest {
    private static final int UNSUPPORTED = 2;
    private static final int INVALID = 3;

    public static void main(String[] args) {
        operands();
        results();
        blocks();
        behindWhatLeadsAway();
        ifWithoutElse();
        branches();
        labelsOfATable();
        labelsWhereItCannotBeComeTo();
        indices();
        calls();
        accesses();
        withoutAMemory();
        moreThanSixteen();
        whatGivesNoMoreThanItTakes();
        asThere();
        resultsAsThere();
        foundFirst();
        Check.finish();
    }

    /** One function with memory and two globals, of which the second changes. */
    private static int[] f(int parameters, int results, int locals, int... instructions) {
        return Mod.module(Mod.types(Mod.type(parameters, results)), Mod.functions(0), Mod.memory(1),
            Mod.globals(Mod.global(0, 1), Mod.global(1, 1)), Mod.code(Mod.body(locals, instructions)));
    }

    private static void valid(String what, int results, int... instructions) {
        Check.loads(what, 0, f(0, results, 0, instructions));
    }

    private static void invalid(String what, int results, int... instructions) {
        Check.loads(what, INVALID, f(0, results, 0, instructions));
    }

    private static void operands() {
        Check.says("Then it is VALIDATED, by the rules and the algorithm of the specification's appendix");
        int[][] one = {{26}, {33, 0}, {34, 0, 26}, {36, 1}, {40, 0, 0, 26}, {44, 0, 0, 26}, {45, 0, 0, 26}, {46, 0, 0, 26},
            {47, 0, 0, 26}, {64, 0, 26}, {69, 26}, {103, 26}, {104, 26}, {105, 26}, {4, 64, 11}, {13, 0}, {14, 0, 0}};
        for (int[] bytes : one) {
            Check.loads("one operand for " + bytes[0], 0, f(0, 0, 1, Mod.cat(Mod.con(1), bytes)));
            Check.loads("no operand for " + bytes[0], INVALID, f(0, 0, 1, bytes));
            Check.loads("no operand in a block for " + bytes[0], INVALID,
                f(0, 0, 1, Mod.cat(Mod.con(1), Mod.b(2, 64), bytes, Mod.b(11, 26))));
        }
        for (int op = 70; op <= 120; op++) {
            if (op <= 79 || op >= 106) {
                Check.loads("two operands for " + op, 0, f(0, 1, 0, 65, 1, 65, 2, op));
                Check.loads("one operand for " + op, INVALID, f(0, 1, 0, 65, 1, op));
                Check.loads("three operands for " + op, INVALID, f(0, 1, 0, 65, 1, 65, 1, 65, 2, op));
            }
        }
        for (int op : new int[] {54, 58, 59}) {
            valid("two operands for " + op, 0, 65, 1, 65, 1, op, 0, 0);
            invalid("one operand for " + op, 0, 65, 1, op, 0, 0);
            invalid("no result of " + op, 1, 65, 1, 65, 1, op, 0, 0);
        }
        valid("select", 1, 65, 1, 65, 2, 65, 3, 27);
        invalid("select of two", 1, 65, 1, 65, 2, 27);
        valid("memory.size", 1, 63, 0);
    }

    private static void results() {
        Check.says("the rules and the algorithm of the specification's appendix");
        valid("no result", 0, 1);
        invalid("an operand too many", 0, 65, 1);
        invalid("a result too few", 1, 1);
        valid("a result", 1, 65, 1);
        invalid("a result too many", 1, 65, 1, 65, 1);
        valid("return with more below", 1, 65, 1, 65, 2, 15);
        valid("return of nothing with more below", 0, 65, 1, 65, 2, 15);
        invalid("return without a result", 1, 15);
        invalid("return with a result from outside", 1, 65, 1, 2, 64, 15, 11);
    }

    private static void blocks() {
        Check.says("the algorithm of the specification's appendix");
        for (int op = 2; op <= 3; op++) {
            valid("a result of " + op, 1, op, 127, 65, 1, 11);
            invalid("no result of " + op, 1, op, 127, 11);
            invalid("two results of " + op, 1, op, 127, 65, 1, 65, 1, 11);
            invalid("a result of " + op + " that has none", 0, op, 64, 65, 1, 11);
            invalid("an operand from outside of " + op, 0, 65, 1, op, 64, 26, 11);
        }
        valid("if and else", 1, 65, 0, 4, 127, 65, 1, 5, 65, 2, 11);
        valid("if and else without result", 0, 65, 0, 4, 64, 5, 11);
        invalid("if without its result", 1, 65, 0, 4, 127, 5, 65, 2, 11);
        invalid("if with two results", 1, 65, 0, 4, 127, 65, 1, 65, 1, 5, 65, 2, 11);
        invalid("else without its result", 1, 65, 0, 4, 127, 65, 2, 5, 11);
        invalid("else with two results", 1, 65, 0, 4, 127, 65, 2, 5, 65, 1, 65, 1, 11);
        invalid("an else that takes the result of its if", 1, 65, 0, 4, 127, 65, 1, 5, 69, 11);
    }

    private static void behindWhatLeadsAway() {
        Check.says("(those that it takes as there behind an instruction that leads away");
        int[][] away = {{0}, {12, 0}, {65, 0, 14, 0, 0}, {15}};
        for (int[] one : away) {
            String what = " behind " + one[0];
            Check.loads("a sum" + what, 0, f(0, 0, 0, Mod.cat(one, Mod.b(106, 26))));
            Check.loads("a drop" + what, 0, f(0, 0, 0, Mod.cat(one, Mod.b(26, 26, 26))));
            Check.loads("an operand too many" + what, INVALID, f(0, 0, 0, Mod.cat(one, Mod.b(65, 1))));
            Check.loads("a drop in a block" + what, INVALID, f(0, 0, 0, Mod.cat(one, Mod.b(2, 64, 26, 11))));
            Check.loads("a sum behind a block" + what, 0, f(0, 0, 0, Mod.cat(one, Mod.b(2, 64, 11, 106, 26))));
            Check.loads("a block's drop behind its end" + what, INVALID, f(0, 0, 0, Mod.cat(Mod.b(2, 64), one, Mod.b(11, 26))));
        }
        valid("then that leads away", 1, 65, 0, 4, 127, 0, 5, 65, 2, 11);
        invalid("else is not as unreachable as then", 1, 65, 0, 4, 127, 0, 5, 106, 11);
        valid("a result where it can't be come to", 1, 0);
        valid("br_if where it can't be come to", 1, 2, 127, 0, 13, 0, 11);
        invalid("br_if leaves a result where it can't be come to", 0, 2, 127, 0, 13, 0, 26, 65, 1, 65, 1, 11, 26);
    }

    private static void ifWithoutElse() {
        Check.says("(An if without else gives no result");
        valid("if without a result", 0, 65, 0, 4, 64, 11);
        invalid("if with a result", 1, 65, 0, 4, 127, 65, 1, 11);
        invalid("if with a result that leads away", 1, 65, 0, 4, 127, 0, 11);
        invalid("if with a result where it can't be come to", 1, 0, 4, 127, 65, 1, 11);
        invalid("if with a result that leads away where it can't be come to", 1, 0, 4, 127, 0, 11);
        invalid("a block's result in an if", 0, 65, 0, 4, 64, 2, 127, 65, 1, 11, 11);
    }

    private static void branches() {
        Check.says("by the rules and the algorithm");
        valid("br to the body", 1, 65, 1, 12, 0);
        invalid("br to the body without a result", 1, 12, 0);
        valid("br with more below", 1, 65, 1, 65, 2, 12, 0);
        valid("br to a loop takes no result", 1, 3, 127, 12, 0, 11);
        invalid("br_if leaves the result of a block", 0, 2, 127, 65, 1, 65, 1, 13, 0, 26, 11, 26);
        valid("br_if with the result of a block", 0, 2, 127, 65, 1, 65, 1, 13, 0, 11, 26);
        invalid("br_if without the result of a block", 0, 2, 127, 65, 1, 13, 0, 11, 26);
        valid("br out of ten blocks", 0, Mod.cat(Mod.repeat(10, 2, 64), Mod.b(12, 10), Mod.repeat(10, 11)));
        invalid("br out of more than ten blocks", 0, Mod.cat(Mod.repeat(10, 2, 64), Mod.b(12, 11), Mod.repeat(10, 11)));
        for (int[] label : new int[][] {{0}, {1}, {2}, {128, 1}, {255, 255, 255, 255, 7}, {128, 128, 128, 128, 8}, {255, 255, 255, 255, 15}}) {
            int want = label[0] <= 1 ? 0 : INVALID;
            Check.loads("br " + label[0], want, f(0, 0, 0, Mod.cat(Mod.b(2, 64, 12), label, Mod.b(11))));
            Check.loads("br_if " + label[0], want, f(0, 0, 0, Mod.cat(Mod.b(2, 64, 65, 0, 13), label, Mod.b(11))));
            Check.loads("br_table " + label[0], want, f(0, 0, 0, Mod.cat(Mod.b(2, 64, 65, 0, 14, 1), label, Mod.b(0, 11))));
            Check.loads("br_table, the last " + label[0], want, f(0, 0, 0, Mod.cat(Mod.b(2, 64, 65, 0, 14, 1, 0), label, Mod.b(11))));
        }
    }

    private static void labelsOfATable() {
        Check.says("labels of a br_table are alike in results");
        valid("alike with a result", 1, 2, 127, 65, 1, 65, 0, 14, 1, 0, 1, 11);
        valid("alike without one", 0, 2, 64, 65, 0, 14, 1, 0, 1, 11);
        invalid("the first without a result", 1, 2, 64, 65, 1, 65, 0, 14, 1, 0, 1, 11, 65, 1);
        invalid("the last without a result", 1, 2, 64, 65, 1, 65, 0, 14, 1, 1, 0, 11, 65, 1);
        invalid("a loop and a block", 0, 2, 127, 3, 127, 65, 1, 65, 0, 14, 1, 0, 1, 11, 11, 26);
        valid("a loop and a block without a result", 0, 2, 64, 3, 127, 65, 0, 14, 1, 0, 1, 11, 26, 11);
        invalid("the eighth of eight", 1, Mod.cat(Mod.b(2, 64, 65, 1, 65, 0, 14, 8), Mod.repeat(7, 1), Mod.b(0, 1, 11, 65, 1)));
    }

    private static void labelsWhereItCannotBeComeTo() {
        Check.says("also where it can't be come to.)");
        invalid("a place without a result", 1, 2, 64, 0, 14, 1, 0, 1, 11, 65, 1);
        invalid("the last without a result", 1, 2, 64, 0, 14, 1, 1, 0, 11, 65, 1);
        invalid("behind br", 1, 2, 64, 12, 0, 14, 1, 0, 1, 11, 65, 1);
        invalid("a place that leads nowhere", 0, 0, 14, 1, 1, 0);
        invalid("the last leads nowhere", 0, 0, 14, 1, 0, 1);
        valid("alike", 1, 2, 127, 0, 14, 1, 0, 1, 11);
        invalid("br to nowhere", 0, 0, 12, 1);
        invalid("a local that is none", 0, 0, 32, 0, 26);
        invalid("a call of none", 0, 0, 16, 1);
    }

    private static void indices() {
        Check.says("VALIDATED, by the rules");
        int[][] great = {{128, 1}, {255, 255, 255, 255, 7}, {128, 128, 128, 128, 8}, {255, 255, 255, 255, 15}};
        for (int[] index : great) {
            Check.loads("local.get", INVALID, f(1, 0, 2, Mod.cat(Mod.b(32), index, Mod.b(26))));
            Check.loads("local.set", INVALID, f(1, 0, 2, Mod.cat(Mod.b(65, 0, 33), index)));
            Check.loads("local.tee", INVALID, f(1, 0, 2, Mod.cat(Mod.b(65, 0, 34), index, Mod.b(26))));
            Check.loads("global.get", INVALID, f(1, 0, 2, Mod.cat(Mod.b(35), index, Mod.b(26))));
            Check.loads("global.set", INVALID, f(1, 0, 2, Mod.cat(Mod.b(65, 0, 36), index)));
            Check.loads("call", INVALID, f(0, 0, 0, Mod.cat(Mod.b(16), index)));
        }
        for (int index = 0; index < 5; index++) {
            int want = index < 3 ? 0 : INVALID;
            Check.loads("local.get " + index + " of 3", want, f(1, 0, 2, 32, index, 26));
            Check.loads("local.set " + index + " of 3", want, f(1, 0, 2, 65, 0, 33, index));
            Check.loads("local.tee " + index + " of 3", want, f(1, 0, 2, 65, 0, 34, index, 26));
            Check.loads("global.get " + index + " of 2", index < 2 ? 0 : INVALID, f(0, 0, 0, 35, index, 26));
            Check.loads("global.set " + index + " of 2, the second changes", index == 1 ? 0 : INVALID, f(0, 0, 0, 65, 0, 36, index));
        }
        Check.loads("local 0 of none", INVALID, f(0, 1, 0, 32, 0));
        Check.loads("local 11 of 12", 0, f(4, 1, 8, 32, 11));
        Check.loads("local 12 of 12", INVALID, f(4, 1, 8, 32, 12));
    }

    private static void calls() {
        Check.says("VALIDATED, by the rules and the algorithm");
        for (int parameters = 0; parameters <= 4; parameters++) {
            int[] before = Mod.cat(Mod.types(Mod.type(0, 0), Mod.type(parameters, 1)), Mod.functions(0, 1));
            int[] called = Mod.body(0, Mod.con(0));
            for (int given = 0; given <= 5; given++) {
                Check.loads(given + " for " + parameters, given == parameters ? 0 : INVALID,
                    Mod.module(before, Mod.code(Mod.body(0, Mod.repeat(given, 65, 1), Mod.b(16, 1, 26)), called)));
            }
        }
        valid("call 0", 0, 16, 0);
        invalid("call 1 of 1", 0, 16, 1);
    }

    private static void accesses() {
        Check.says("by the rules and the algorithm of the specification's appendix");
        int[] ops = {40, 44, 45, 46, 47, 54, 58, 59};
        int[] most = {2, 0, 0, 1, 1, 2, 0, 1};
        int[][] aligns = {{0}, {1}, {2}, {3}, {31}, {32}, {255, 255, 255, 255, 15}, {128, 128, 128, 128, 8}};
        for (int i = 0; i < ops.length; i++) {
            for (int[] align : aligns) {
                int[] bytes = ops[i] >= 54 ? Mod.cat(Mod.b(65, 0, 65, 0, ops[i]), align, Mod.b(0))
                    : Mod.cat(Mod.b(65, 0, ops[i]), align, Mod.b(0, 26));
                Check.loads("alignment " + align[0] + " of " + ops[i], align[0] <= most[i] ? 0 : INVALID, f(0, 0, 0, bytes));
            }
        }
    }

    private static void withoutAMemory() {
        Check.says("by the rules");
        int[][] uses = {{65, 0, 40, 0, 0, 26}, {65, 0, 44, 0, 0, 26}, {65, 0, 45, 0, 0, 26}, {65, 0, 46, 0, 0, 26},
            {65, 0, 47, 0, 0, 26}, {65, 0, 65, 0, 54, 0, 0}, {65, 0, 65, 0, 58, 0, 0}, {65, 0, 65, 0, 59, 0, 0}, {63, 0, 26},
            {65, 0, 64, 0, 26}};
        int[] before = Mod.cat(Mod.types(Mod.type(0, 0)), Mod.functions(0));
        for (int[] use : uses) {
            int[] code = Mod.code(Mod.body(0, use));
            Check.loads("a memory of no page for " + use[use.length - 3], 0, Mod.module(before, Mod.memory(0), code));
            Check.loads("no memory for " + use[use.length - 3], INVALID, Mod.module(before, code));
            Check.loads("an empty memory section for " + use[use.length - 3], INVALID, Mod.module(before, Mod.vector(5), code));
        }
    }

    /** So many operands, then the instructions; 1 local, and function 1 gives a result, function 2 takes two and gives one. */
    private static void deep(String what, int want, int count, int... instructions) {
        Check.loads(what, want, Mod.module(Mod.types(Mod.type(0, 0), Mod.type(0, 1), Mod.type(2, 1)), Mod.functions(0, 1, 2),
            Mod.memory(1), Mod.globals(Mod.global(1, 1)), Mod.code(Mod.body(1, Mod.repeat(count, 65, 1), instructions),
                Mod.body(0, Mod.b(65, 1)), Mod.body(0, Mod.b(65, 1)))));
    }

    private static int[] drops(int count) {
        return Mod.repeat(count, 26);
    }

    private static void moreThanSixteen() {
        Check.says("A body in which the algorithm's operand stack comes to have more than 16");
        int[][] givers = {{65, 1}, {32, 0}, {35, 0}, {63, 0}, {16, 1}, {2, 127, 65, 1, 11}, {3, 127, 65, 1, 11}};
        for (int[] giver : givers) {
            deep("a sixteenth by " + giver[0], 0, 15, Mod.cat(giver, drops(16)));
            deep("a seventeenth by " + giver[0], UNSUPPORTED, 16, Mod.cat(giver, drops(17)));
        }
        deep("a seventeenth that is dropped at once", UNSUPPORTED, 16, Mod.cat(Mod.b(65, 1, 26), drops(16)));
        deep("seventeen, and then what leads away", UNSUPPORTED, 17, 0);
        deep("sixteen, and then what leads away", 0, 16, 0);
        deep("two more in a block on fifteen", UNSUPPORTED, 15, Mod.cat(Mod.b(2, 64, 65, 1, 65, 1, 26, 26, 11), drops(15)));
        deep("one more in a block on fifteen", 0, 15, Mod.cat(Mod.b(2, 64, 65, 1, 26, 11), drops(15)));
        deep("an if's result on fifteen", 0, 15, Mod.cat(Mod.b(65, 0, 4, 127, 65, 1, 5, 65, 2, 11), drops(16)));
        deep("an if's operand on sixteen", UNSUPPORTED, 16, Mod.cat(Mod.b(65, 0, 4, 64, 11), drops(16)));
        deep("a block's result that is not there, on sixteen", UNSUPPORTED, 16, Mod.cat(Mod.b(2, 127, 0, 11), drops(17)));
        deep("a block's result that is not there, on fifteen", 0, 15, Mod.cat(Mod.b(2, 127, 0, 11), drops(16)));
        deep("sixteen twice", 0, 16, Mod.cat(drops(16), Mod.repeat(16, 65, 1), drops(16)));
        deep("seventeen where it can't be come to", UNSUPPORTED, 0, Mod.cat(Mod.b(0), Mod.repeat(17, 65, 1), drops(17)));
        deep("sixteen where it can't be come to", 0, 0, Mod.cat(Mod.b(0), Mod.repeat(16, 65, 1), drops(16)));
    }

    private static void whatGivesNoMoreThanItTakes() {
        Check.says("operand stack comes to have more than 16");
        int[][] others = {{1}, {34, 0}, {69}, {103}, {64, 0}, {40, 0, 0}, {2, 64, 11}, {3, 64, 11}, {13, 0}};
        for (int[] other : others) {
            int left = other[0] == 13 ? 15 : 16;
            deep("on sixteen: " + other[0], 0, 16, Mod.cat(other, drops(left)));
        }
        deep("on sixteen: a sum", 0, 16, Mod.cat(Mod.b(106), drops(15)));
        deep("on sixteen: select", 0, 16, Mod.cat(Mod.b(27), drops(14)));
        deep("on sixteen: a call that takes two", 0, 16, Mod.cat(Mod.b(16, 2), drops(15)));
        deep("on sixteen: an if", 0, 16, Mod.cat(Mod.b(4, 64, 5, 11), drops(15)));
        deep("on sixteen: a store", 0, 16, Mod.cat(Mod.b(54, 0, 0), drops(14)));
    }

    private static void asThere() {
        Check.says("(those that it takes as there behind an instruction that leads away are not on it)");
        int[][] takers = {{26}, {33, 0}, {36, 0}, {54, 0, 0}, {13, 0}, {4, 64, 11}, {12, 0}, {14, 0, 0}, {0}, {15}};
        for (int[] taker : takers) {
            deep("takes and gives none: " + taker[0], 0, 16, Mod.cat(Mod.b(2, 64, 0), taker, taker, Mod.b(11), drops(16)));
        }
        int[][] givers = {{106}, {27}, {69}, {34, 0}, {40, 0, 0}, {64, 0}, {16, 2}};
        for (int[] giver : givers) {
            deep("takes and gives one, on fifteen: " + giver[0], 0, 15, Mod.cat(Mod.b(2, 64, 0), giver, giver, Mod.b(26, 11), drops(15)));
            deep("takes and gives one, on sixteen: " + giver[0], UNSUPPORTED, 16, Mod.cat(Mod.b(2, 64, 0), giver, Mod.b(26, 11), drops(16)));
        }
        deep("br_if gives again what was not there", UNSUPPORTED, 16, Mod.cat(Mod.b(2, 127, 0, 13, 0, 11), drops(17)));
        deep("br takes what is not there", 0, 15, Mod.cat(Mod.b(2, 127, 0, 12, 0, 11), drops(16)));
    }

    /** What leads to the body, which has a result, from a block on sixteen operands, where that result is not there. */
    private static void resultsAsThere() {
        Check.says("those that it takes as there behind an instruction that leads away are not on it");
        int[][] takers = {{12, 1}, {14, 0, 1}, {14, 2, 1, 1, 1}, {15}};
        int[] before = Mod.cat(Mod.types(Mod.type(0, 1)), Mod.functions(0));
        for (int[] taker : takers) {
            int[] block = Mod.cat(Mod.b(2, 64, 0), taker, taker, Mod.b(11));
            Check.loads("a result that is not there, on sixteen: " + taker[0], 0,
                Mod.module(before, Mod.code(Mod.body(0, Mod.repeat(16, 65, 1), block, drops(15)))));
            Check.loads("a result that is there, on sixteen: " + taker[0], UNSUPPORTED,
                Mod.module(before, Mod.code(Mod.body(0, Mod.repeat(16, 65, 1), Mod.b(2, 64, 0, 65, 1), taker, Mod.b(11), drops(15)))));
        }
        Check.loads("br_if gives a result again that was not there, on sixteen", UNSUPPORTED,
            Mod.module(before, Mod.code(Mod.body(0, Mod.repeat(16, 65, 1), Mod.b(2, 64, 0, 13, 1, 26, 11), drops(15)))));
    }

    private static void foundFirst() {
        Check.says("UNSUPPORTED, if that is found first");
        deep("a local that is none, on sixteen", INVALID, 16, 32, 1);
        deep("a global that is none, on sixteen", INVALID, 16, 35, 1);
        deep("a function that is none, on sixteen", INVALID, 16, 16, 3);
        deep("an operand too many in a block, on sixteen", INVALID, 15, 2, 127, 65, 1, 11, 2, 127, 11);
        deep("a block without its result, on sixteen", INVALID, 16, 2, 127, 11);
        deep("a seventeenth, then a local that is none", UNSUPPORTED, 16, 65, 1, 32, 1);
        deep("a local that is none, then a seventeenth", INVALID, 15, 32, 1, 65, 1, 65, 1);
    }
}
