/** Promises 4, 10 and 11, REGISTER CODE: which entries there are, and each word of them. */
public final class RegisterCodeTest {
    private static final int[][] AWAY = {{0}, {12, 0}, {15}};

    public static void main(String[] args) {
        functionsOneBehindTheOther();
        noEntryForEnd();
        behindWhatLeadsAway();
        behindATable();
        upToTheNextElseOrEnd();
        inABlockThatCannotBeComeTo();
        tops();
        topOfTheBodysEnd();
        constants();
        indicesAndOffsets();
        calls();
        argumentsOfCalls();
        branches();
        ifs();
        elses();
        tables();
        otherSecondWords();
        registersThatAreLeft();
        returns();
        placesOfATable();
        elsesAndTheirIfs();
        elsesBehindThoseFour();
        toALoop();
        toABlockOrAnIf();
        toTheBody();
        theLongestCode();
        Check.finish();
    }

    private static void code(String what, int[] module, int[]... entries) {
        WasmMachine machine = Check.ready(what, module);
        int[] words = Mod.cat(entries);
        Check.due(what + ": rcodeLen", machine.rcodeLen(), words.length);
        for (int i = 0; i < words.length; i++) {
            Check.due(what + ": entry " + i / 4 + ", word " + i % 4, machine.rcode(i), words[i]);
        }
        Check.due(what + ": rcode behind", machine.rcode(words.length), -1);
    }

    private static int[] e(int op, int top, int second, int third) {
        return new int[] {op, top, second, third};
    }

    private static void functionsOneBehindTheOther() {
        Check.says("REGISTER CODE has ENTRIES of four words, those of the functions one behind the other");
        code("no functions", Mod.module());
        code("one function of nothing", Mod.single(0, 0, 0), e(11, 0, 0, 0));
        int[] ends = new int[0];
        int[] bodies = new int[0];
        for (int count = 1; count <= 8; count++) {
            ends = Mod.cat(ends, e(1, count - 1, 0, 0), e(11, count - 1, 0, 0));
            bodies = Mod.cat(bodies, Mod.body(count - 1, Mod.b(1)));
            code(count + " functions", Mod.module(Mod.types(Mod.type(0, 0)), Mod.functions(new int[count]),
                Mod.section(10, Mod.b(count), bodies)), ends);
        }
    }

    private static void noEntryForEnd() {
        Check.says("for end there is none, but for that of the body");
        code("blocks", Mod.single(0, 0, 0, Mod.b(2, 64, 3, 64, 11, 11)), e(2, 0, 0, 0), e(3, 0, 0, 0), e(11, 0, 0, 0));
        code("an if", Mod.single(1, 0, 0, Mod.b(32, 0, 4, 64, 11)), e(32, 1, 0, 0), e(4, 2, 2, 0), e(11, 1, 0, 0));
        code("two bodies", Mod.module(Mod.types(Mod.type(0, 0)), Mod.functions(0, 0),
            Mod.code(Mod.body(0, Mod.b(2, 64, 11)), Mod.body(0))), e(2, 0, 0, 0), e(11, 0, 0, 0), e(11, 0, 0, 0));
        code("a body's end that cannot be come to", Mod.single(0, 0, 0, Mod.b(0)), e(0, 0, 0, 0), e(11, 0, 0, 0));
        code("a body's end behind br", Mod.single(0, 0, 2, Mod.b(12, 0)), e(12, 2, 1, 4), e(11, 2, 0, 0));
    }

    private static int word2(int op, int end) {
        return op == 12 ? end : 0;
    }

    private static void behindWhatLeadsAway() {
        Check.says("(not what stands, up to the next else or end that belongs to the block, behind unreachable, br, br_table and return");
        for (int[] away : AWAY) {
            int op = away[0];
            code("behind " + op, Mod.single(0, 0, 0, away, Mod.b(1, 106, 26, 65, 1, 26, 0, 15)),
                e(op, 0, word2(op, 1), 0), e(11, 0, 0, 0));
            code("before " + op, Mod.single(0, 0, 0, Mod.b(1), away), e(1, 0, 0, 0), e(op, 0, word2(op, 2), 0), e(11, 0, 0, 0));
        }
        code("br_if does not lead away for sure", Mod.single(0, 0, 0, Mod.b(65, 1, 13, 0, 1)),
            e(65, 0, 1, 0), e(13, 1, 3, 0), e(1, 0, 0, 0), e(11, 0, 0, 0));
        code("a call does not lead away", Mod.single(0, 0, 0, Mod.b(16, 0, 1)), e(16, 0, 0, 0), e(1, 0, 0, 0), e(11, 0, 0, 0));
    }

    private static void behindATable() {
        Check.says("behind unreachable, br, br_table and return");
        code("behind br_table", Mod.single(0, 0, 0, Mod.b(65, 1, 14, 0, 0, 1, 106, 26)),
            e(65, 0, 1, 0), e(14, 1, 0, 0), e(12, 0, 3, 0), e(11, 0, 0, 0));
        code("behind br_table up to the end", Mod.single(0, 0, 0, Mod.b(2, 64, 65, 1, 14, 0, 0, 1, 1, 11, 1)),
            e(2, 0, 0, 0), e(65, 0, 1, 0), e(14, 1, 0, 0), e(12, 0, 4, 0), e(1, 0, 0, 0), e(11, 0, 0, 0));
        code("a table that cannot be come to", Mod.single(0, 0, 0, Mod.b(0, 14, 1, 0, 0)), e(0, 0, 0, 0), e(11, 0, 0, 0));
    }

    private static void upToTheNextElseOrEnd() {
        Check.says("up to the next else or end that belongs to the block");
        for (int[] away : AWAY) {
            int op = away[0];
            code("a block's end behind " + op, Mod.single(0, 0, 0, Mod.b(2, 64), away, Mod.b(1, 1, 11, 1)),
                e(2, 0, 0, 0), e(op, 0, word2(op, 2), 0), e(1, 0, 0, 0), e(11, 0, 0, 0));
            code("another block's end behind " + op, Mod.single(0, 0, 0, Mod.b(2, 64), away, Mod.b(3, 64, 11, 1, 2, 64, 1, 11, 1, 11, 1)),
                e(2, 0, 0, 0), e(op, 0, word2(op, 2), 0), e(1, 0, 0, 0), e(11, 0, 0, 0));
            code("another block's else behind " + op, Mod.single(0, 0, 0, Mod.b(2, 64), away, Mod.b(4, 64, 1, 5, 1, 11, 1, 11, 1)),
                e(2, 0, 0, 0), e(op, 0, word2(op, 2), 0), e(1, 0, 0, 0), e(11, 0, 0, 0));
            code("an else behind " + op, Mod.single(1, 0, 0, Mod.b(32, 0, 4, 64), away, Mod.b(1, 5, 1, 11)),
                e(32, 1, 0, 0), e(4, 2, 3, 0), e(op, 1, word2(op, 4), op == 12 ? 2 : 0), e(1, 1, 0, 0), e(11, 1, 0, 0));
            code("an if's end behind " + op, Mod.single(1, 0, 0, Mod.b(32, 0, 4, 64), away, Mod.b(1, 11, 1)),
                e(32, 1, 0, 0), e(4, 2, 3, 0), e(op, 1, word2(op, 3), op == 12 ? 2 : 0), e(1, 1, 0, 0), e(11, 1, 0, 0));
        }
        code("behind a block that leads away", Mod.single(0, 1, 0, Mod.b(2, 127, 0, 11)),
            e(2, 0, 0, 0), e(0, 0, 0, 0), e(11, 1, 0, 1));
        code("operands behind such a block", Mod.single(0, 0, 0, Mod.b(2, 127, 0, 11, 65, 1, 106, 26)),
            e(2, 0, 0, 0), e(0, 0, 0, 0), e(65, 1, 1, 0), e(106, 2, 0, 0), e(26, 1, 0, 0), e(11, 0, 0, 0));
        code("behind an if of which both ways lead away", Mod.single(1, 0, 0, Mod.b(32, 0, 4, 64, 0, 5, 15, 11, 1)),
            e(32, 1, 0, 0), e(4, 2, 3, 0), e(0, 1, 0, 0), e(15, 1, 0, 0), e(1, 1, 0, 0), e(11, 1, 0, 0));
    }

    private static void inABlockThatCannotBeComeTo() {
        Check.says("nor what lies in a block that cannot be come to)");
        code("a block", Mod.single(0, 0, 0, Mod.b(0, 2, 64, 1, 11, 1)), e(0, 0, 0, 0), e(11, 0, 0, 0));
        code("a loop", Mod.single(0, 0, 0, Mod.b(0, 3, 64, 1, 12, 0, 11, 1)), e(0, 0, 0, 0), e(11, 0, 0, 0));
        code("an if and its else", Mod.single(0, 0, 0, Mod.b(0, 4, 64, 1, 5, 1, 11, 1)), e(0, 0, 0, 0), e(11, 0, 0, 0));
        code("blocks in one another", Mod.single(0, 0, 0, Mod.b(0, 2, 64, 3, 64, 1, 11, 1, 2, 64, 0, 11, 1, 11, 1)),
            e(0, 0, 0, 0), e(11, 0, 0, 0));
        code("what leads away in a block that cannot be come to", Mod.single(0, 0, 0, Mod.b(0, 2, 64, 0, 11, 1)),
            e(0, 0, 0, 0), e(11, 0, 0, 0));
        code("an else behind what leads away in it", Mod.single(0, 0, 0, Mod.b(0, 4, 64, 0, 5, 1, 11, 1)),
            e(0, 0, 0, 0), e(11, 0, 0, 0));
    }

    private static void tops() {
        Check.says("1 its TOP: how many locals and operands there are before it");
        for (int parameters = 0; parameters <= 4; parameters += 2) {
            for (int locals = 0; locals <= 8; locals += 4) {
                int base = parameters + locals;
                code("operands above " + base, Mod.single(parameters, 1, locals,
                    Mod.b(65, 1, 65, 2, 65, 3, 27, 69, 65, 4, 106, 2, 127, 65, 5, 11, 26)),
                    e(65, base, 1, 0), e(65, base + 1, 2, 0), e(65, base + 2, 3, 0), e(27, base + 3, 0, 0), e(69, base + 1, 0, 0),
                    e(65, base + 1, 4, 0), e(106, base + 2, 0, 0), e(2, base + 1, 0, 0), e(65, base + 1, 5, 0),
                    e(26, base + 2, 0, 0), e(11, base + 1, 0, 1));
            }
        }
        int[] all = new int[0];
        for (int i = 0; i < 16; i++) {
            all = Mod.cat(all, e(65, 12 + i, 1, 0));
        }
        code("sixteen operands above twelve locals", Mod.single(4, 0, 8, Mod.repeat(16, 65, 1), Mod.b(0)),
            all, e(0, 28, 0, 0), e(11, 12, 0, 0));
    }

    private static void topOfTheBodysEnd() {
        Check.says("(of the body's end: locals, and 1 if there is a result)");
        for (int results = 0; results <= 1; results++) {
            int[] value = results == 1 ? Mod.con(9) : Mod.b(1);
            int op = value[0];
            int second = results == 1 ? 9 : 0;
            code("an end, " + results, Mod.single(2, results, 3, value), e(op, 5, second, 0), e(11, 5 + results, 0, results));
            code("an end behind unreachable, " + results, Mod.single(2, results, 3, Mod.b(0)), e(0, 5, 0, 0), e(11, 5 + results, 0, results));
            code("an end behind return with more below, " + results, Mod.single(0, results, 1, Mod.b(65, 1), Mod.b(65, 2), Mod.b(15)),
                e(65, 1, 1, 0), e(65, 2, 2, 0), e(15, 3, 0, results), e(11, 1 + results, 0, results));
        }
    }

    private static void constants() {
        Check.says("2: i32.const: its number");
        for (int number : new int[] {0, 1, -1, 63, 64, -64, -65, Integer.MAX_VALUE, Integer.MIN_VALUE}) {
            code("const " + number, Mod.single(0, 1, 0, Mod.con(number)), e(65, 0, number, 0), e(11, 1, 0, 1));
        }
    }

    private static void indicesAndOffsets() {
        Check.says("locals, globals, loads and stores: their index or offset");
        code("locals", Mod.single(1, 0, 11, Mod.b(32, 11, 34, 7, 33, 0)),
            e(32, 12, 11, 0), e(34, 13, 7, 0), e(33, 13, 0, 0), e(11, 12, 0, 0));
        code("globals", Mod.module(Mod.types(Mod.type(0, 0)), Mod.functions(0), Mod.section(6, Mod.b(4), Mod.repeat(4, Mod.global(1, 0))),
            Mod.code(Mod.body(0, Mod.b(35, 3, 36, 2)))), e(35, 0, 3, 0), e(36, 1, 2, 0), e(11, 0, 0, 0));
        for (int offset : new int[] {0, 1, 100, Integer.MAX_VALUE, Integer.MIN_VALUE, -1}) {
            for (int op : new int[] {40, 44, 45, 46, 47}) {
                code("load " + op, Mod.single(0, 0, 0, Mod.b(65, 0, op, 0), Mod.unsigned(offset), Mod.b(26)),
                    e(65, 0, 0, 0), e(op, 1, offset, 0), e(26, 1, 0, 0), e(11, 0, 0, 0));
            }
            for (int op : new int[] {54, 58, 59}) {
                code("store " + op, Mod.single(0, 0, 0, Mod.b(65, 0, 65, 1, op, 0), Mod.unsigned(offset)),
                    e(65, 0, 0, 0), e(65, 1, 1, 0), e(op, 2, offset, 0), e(11, 0, 0, 0));
            }
        }
        code("not their alignment", Mod.single(0, 1, 0, Mod.b(65, 0, 40, 2, 5)), e(65, 0, 0, 0), e(40, 1, 5, 0), e(11, 1, 0, 1));
    }

    private static void calls() {
        Check.says("call: the function's first entry");
        int[] module = Mod.module(Mod.types(Mod.type(2, 1), Mod.type(0, 0)), Mod.functions(1, 0, 1),
            Mod.code(Mod.body(1, Mod.b(65, 1, 65, 2, 16, 1, 26, 16, 2)), Mod.body(0, Mod.b(32, 1, 15)),
                Mod.body(0, Mod.b(16, 0, 3, 64, 12, 0, 11))));
        code("calls", module, e(65, 1, 1, 0), e(65, 2, 2, 0), e(16, 3, 6, 2), e(26, 2, 0, 0), e(16, 1, 9, 0), e(11, 1, 0, 0),
            e(32, 2, 1, 0), e(15, 3, 0, 1), e(11, 3, 0, 1),
            e(16, 0, 0, 0), e(3, 0, 0, 0), e(12, 0, 11, 0), e(11, 0, 0, 0));
    }

    private static void argumentsOfCalls() {
        Check.says("call: how many arguments");
        for (int count = 0; count <= 4; count++) {
            int[] arguments = new int[0];
            for (int i = 0; i < count; i++) {
                arguments = Mod.cat(arguments, e(65, i, 7, 0));
            }
            code(count + " arguments", Mod.module(Mod.types(Mod.type(0, 0), Mod.type(count, 0)), Mod.functions(0, 1),
                Mod.code(Mod.body(0, Mod.repeat(count, 65, 7), Mod.b(16, 1)), Mod.body(0))),
                arguments, e(16, count, count + 2, count), e(11, 0, 0, 0), e(11, count, 0, 0));
            code(count + " arguments and a result", Mod.module(Mod.types(Mod.type(0, 1), Mod.type(count, 1)), Mod.functions(0, 1),
                Mod.code(Mod.body(0, Mod.repeat(count, 65, 7), Mod.b(16, 1)), Mod.body(2, Mod.b(0)))),
                arguments, e(16, count, count + 2, count), e(11, 1, 0, 1), e(0, count + 2, 0, 0), e(11, count + 3, 0, 1));
        }
    }

    private static void branches() {
        Check.says("br and br_if: the entry that comes next when they lead away");
        code("br_if to a loop", Mod.single(1, 0, 0, Mod.b(65, 4, 3, 127, 65, 5, 32, 0, 13, 0, 11, 26, 26)),
            e(65, 1, 4, 0), e(3, 2, 0, 0), e(65, 2, 5, 0), e(32, 3, 0, 0), e(13, 4, 2, 4), e(26, 3, 0, 0), e(26, 2, 0, 0),
            e(11, 1, 0, 0));
        code("br_if to a block and to the body", Mod.single(1, 1, 0,
            Mod.b(65, 4, 2, 127, 65, 5, 32, 0, 13, 0, 32, 0, 13, 1, 11, 106)),
            e(65, 1, 4, 0), e(2, 2, 0, 0), e(65, 2, 5, 0), e(32, 3, 0, 0), e(13, 4, 7, 5), e(32, 3, 0, 0), e(13, 4, 8, 3),
            e(106, 3, 0, 0), e(11, 2, 0, 1));
        code("br in a second function", Mod.module(Mod.types(Mod.type(0, 0)), Mod.functions(0, 0),
            Mod.code(Mod.body(0, Mod.b(1)), Mod.body(0, Mod.b(2, 64, 12, 0, 11, 12, 0)))),
            e(1, 0, 0, 0), e(11, 0, 0, 0), e(2, 0, 0, 0), e(12, 0, 4, 0), e(12, 0, 5, 0), e(11, 0, 0, 0));
    }

    private static void ifs() {
        Check.says("if: the entry that comes next when its operand is 0");
        code("without else", Mod.single(1, 0, 0, Mod.b(32, 0, 4, 64, 1, 11, 1)),
            e(32, 1, 0, 0), e(4, 2, 3, 0), e(1, 1, 0, 0), e(1, 1, 0, 0), e(11, 1, 0, 0));
        code("with else", Mod.single(1, 1, 0, Mod.b(32, 0, 4, 127, 65, 1, 5, 65, 2, 11)),
            e(32, 1, 0, 0), e(4, 2, 4, 0), e(65, 1, 1, 0), e(5, 2, 5, 0), e(65, 1, 2, 0), e(11, 2, 0, 1));
        code("with an empty else", Mod.single(1, 0, 0, Mod.b(32, 0, 4, 64, 5, 11)),
            e(32, 1, 0, 0), e(4, 2, 3, 0), e(5, 1, 3, 0), e(11, 1, 0, 0));
        code("at the body's end", Mod.single(1, 0, 0, Mod.b(32, 0, 4, 64, 1, 11)),
            e(32, 1, 0, 0), e(4, 2, 3, 0), e(1, 1, 0, 0), e(11, 1, 0, 0));
        code("before an else", Mod.single(1, 0, 0, Mod.b(32, 0, 4, 64, 32, 0, 4, 64, 1, 11, 5, 1, 11)),
            e(32, 1, 0, 0), e(4, 2, 6, 0), e(32, 1, 0, 0), e(4, 2, 5, 0), e(1, 1, 0, 0), e(5, 1, 7, 0), e(1, 1, 0, 0),
            e(11, 1, 0, 0));
        code("in a loop, at its end", Mod.single(1, 0, 0, Mod.b(3, 64, 32, 0, 4, 64, 12, 1, 11, 11)),
            e(3, 1, 0, 0), e(32, 1, 0, 0), e(4, 2, 4, 0), e(12, 1, 1, 2), e(11, 1, 0, 0));
    }

    private static void elses() {
        Check.says("else: the entry that comes next");
        code("before others", Mod.single(1, 0, 0, Mod.b(32, 0, 4, 64, 1, 5, 1, 1, 11, 65, 1, 26)),
            e(32, 1, 0, 0), e(4, 2, 4, 0), e(1, 1, 0, 0), e(5, 1, 6, 0), e(1, 1, 0, 0), e(1, 1, 0, 0), e(65, 1, 1, 0), e(26, 2, 0, 0),
            e(11, 1, 0, 0));
        code("before another else", Mod.single(1, 0, 0, Mod.b(32, 0, 4, 64, 32, 0, 4, 64, 5, 11, 5, 11)),
            e(32, 1, 0, 0), e(4, 2, 6, 0), e(32, 1, 0, 0), e(4, 2, 5, 0), e(5, 1, 5, 0), e(5, 1, 6, 0), e(11, 1, 0, 0));
        code("with its if's result", Mod.single(1, 0, 0, Mod.b(65, 9, 32, 0, 4, 127, 65, 1, 5, 65, 2, 11, 26, 26)),
            e(65, 1, 9, 0), e(32, 2, 0, 0), e(4, 3, 5, 0), e(65, 2, 1, 0), e(5, 3, 6, 0), e(65, 2, 2, 0), e(26, 3, 0, 0), e(26, 2, 0, 0),
            e(11, 1, 0, 0));
        code("that leads away", Mod.single(1, 1, 0, Mod.b(32, 0, 4, 127, 65, 3, 5, 0, 1, 11)),
            e(32, 1, 0, 0), e(4, 2, 4, 0), e(65, 1, 3, 0), e(5, 2, 5, 0), e(0, 1, 0, 0), e(11, 2, 0, 1));
    }

    private static void tables() {
        Check.says("br_table: how many places it has without the last");
        for (int count = 0; count <= 8; count++) {
            int[] places = new int[0];
            for (int i = 0; i <= count; i++) {
                places = Mod.cat(places, e(12, 0, count + 3, 0));
            }
            code(count + " places", Mod.single(0, 0, 0, Mod.b(65, 1, 14, count), Mod.repeat(count + 1, 0)),
                e(65, 0, 1, 0), e(14, 1, count, 0), places, e(11, 0, 0, 0));
        }
    }

    private static void otherSecondWords() {
        Check.says("others: 0");
        int[][] none = {{1}, {2, 64, 11}, {3, 64, 11}};
        for (int[] other : none) {
            code("instruction " + other[0], Mod.single(0, 0, 0, other), e(other[0], 0, 0, 0), e(11, 0, 0, 0));
        }
        code("unreachable", Mod.single(0, 0, 0, Mod.b(0)), e(0, 0, 0, 0), e(11, 0, 0, 0));
        for (int op = 2; op <= 3; op++) {
            code("with a result: " + op, Mod.single(0, 1, 0, Mod.b(op, 127, 65, 1, 11)), e(op, 0, 0, 0), e(65, 0, 1, 0), e(11, 1, 0, 1));
        }
        code("memory", Mod.single(0, 0, 0, Mod.b(63, 0, 64, 0, 26)), e(63, 0, 0, 0), e(64, 1, 0, 0), e(26, 1, 0, 0), e(11, 0, 0, 0));
        code("select", Mod.single(0, 1, 0, Mod.b(65, 1, 65, 2, 65, 3, 27)), e(65, 0, 1, 0), e(65, 1, 2, 0), e(65, 2, 3, 0),
            e(27, 3, 0, 0), e(11, 1, 0, 1));
        for (int op : new int[] {69, 103, 104, 105}) {
            code("of one: " + op, Mod.single(0, 1, 0, Mod.b(65, 1, op)), e(65, 0, 1, 0), e(op, 1, 0, 0), e(11, 1, 0, 1));
        }
        for (int op = 70; op <= 120; op++) {
            if (op <= 79 || op >= 106) {
                code("of two: " + op, Mod.single(0, 1, 0, Mod.b(65, 1, 65, 2, op)), e(65, 0, 1, 0), e(65, 1, 2, 0), e(op, 2, 0, 0),
                    e(11, 1, 0, 1));
            }
        }
    }

    private static void registersThatAreLeft() {
        Check.says("3: br and br_if: twice the number of registers that are left without a result where they lead to, and 1 if one result goes there");
        code("a block without a result", Mod.single(1, 0, 1, Mod.b(65, 8, 2, 64, 65, 9, 12, 0, 11, 26)),
            e(65, 2, 8, 0), e(2, 3, 0, 0), e(65, 3, 9, 0), e(12, 4, 4, 6), e(26, 3, 0, 0), e(11, 2, 0, 0));
        code("a block with a result", Mod.single(1, 0, 1, Mod.b(65, 8, 2, 127, 65, 9, 12, 0, 11, 26, 26)),
            e(65, 2, 8, 0), e(2, 3, 0, 0), e(65, 3, 9, 0), e(12, 4, 4, 7), e(26, 4, 0, 0), e(26, 3, 0, 0), e(11, 2, 0, 0));
        code("a loop with a result: none goes there", Mod.single(1, 0, 1, Mod.b(65, 8, 3, 127, 65, 9, 12, 0, 11, 26, 26)),
            e(65, 2, 8, 0), e(3, 3, 0, 0), e(65, 3, 9, 0), e(12, 4, 2, 6), e(26, 4, 0, 0), e(26, 3, 0, 0), e(11, 2, 0, 0));
        code("an if has taken its operand", Mod.single(1, 0, 1, Mod.b(65, 8, 32, 0, 4, 127, 65, 9, 12, 0, 5, 65, 7, 12, 0, 11, 26, 26)),
            e(65, 2, 8, 0), e(32, 3, 0, 0), e(4, 4, 5, 0), e(65, 3, 9, 0), e(12, 4, 7, 7), e(65, 3, 7, 0), e(12, 4, 7, 7),
            e(26, 4, 0, 0), e(26, 3, 0, 0), e(11, 2, 0, 0));
        code("the body", Mod.single(1, 1, 1, Mod.b(65, 8, 2, 64, 65, 9, 12, 1, 11)),
            e(65, 2, 8, 0), e(2, 3, 0, 0), e(65, 3, 9, 0), e(12, 4, 4, 5), e(11, 3, 0, 1));
        code("the body without a result", Mod.single(1, 0, 1, Mod.b(65, 8, 12, 0)), e(65, 2, 8, 0), e(12, 3, 2, 4), e(11, 2, 0, 0));
        code("br_if", Mod.single(0, 0, 1, Mod.b(65, 8, 2, 127, 65, 9, 32, 0, 13, 0, 32, 0, 13, 1, 11, 26, 26)),
            e(65, 1, 8, 0), e(2, 2, 0, 0), e(65, 2, 9, 0), e(32, 3, 0, 0), e(13, 4, 7, 5), e(32, 3, 0, 0), e(13, 4, 9, 2),
            e(26, 3, 0, 0), e(26, 2, 0, 0), e(11, 1, 0, 0));
    }

    private static void returns() {
        Check.says("return and the body's end: 1 if there is a result; others 0");
        code("no result", Mod.single(0, 0, 0, Mod.b(15)), e(15, 0, 0, 0), e(11, 0, 0, 0));
        code("a result", Mod.single(0, 1, 0, Mod.b(65, 3, 15)), e(65, 0, 3, 0), e(15, 1, 0, 1), e(11, 1, 0, 1));
        code("a result from within a block", Mod.single(0, 1, 0, Mod.b(2, 64, 65, 3, 15, 11, 65, 4)),
            e(2, 0, 0, 0), e(65, 0, 3, 0), e(15, 1, 0, 1), e(65, 0, 4, 0), e(11, 1, 0, 1));
        code("no result from within a block with one", Mod.single(0, 0, 0, Mod.b(2, 127, 15, 11, 26)),
            e(2, 0, 0, 0), e(15, 0, 0, 0), e(26, 1, 0, 0), e(11, 0, 0, 0));
    }

    private static void placesOfATable() {
        Check.says("Behind a br_table's entry stands one for each of its places, the last one, too, as of a br, with the table's own TOP less 1 in word 1.");
        code("to a block and to the body, with a result", Mod.single(1, 1, 0,
            Mod.b(65, 3, 2, 127, 65, 7, 32, 0, 14, 2, 0, 1, 0, 1, 11, 106)),
            e(65, 1, 3, 0), e(2, 2, 0, 0), e(65, 2, 7, 0), e(32, 3, 0, 0), e(14, 4, 2, 0), e(12, 3, 8, 5), e(12, 3, 9, 3),
            e(12, 3, 8, 5), e(106, 3, 0, 0), e(11, 2, 0, 1));
        code("to a loop, a block and the body", Mod.single(0, 0, 1,
            Mod.b(65, 8, 2, 64, 65, 7, 3, 64, 65, 6, 65, 5, 14, 2, 2, 1, 0, 11, 26, 11, 26)),
            e(65, 1, 8, 0), e(2, 2, 0, 0), e(65, 2, 7, 0), e(3, 3, 0, 0), e(65, 3, 6, 0), e(65, 4, 5, 0), e(14, 5, 2, 0),
            e(12, 4, 12, 2), e(12, 4, 11, 4), e(12, 4, 4, 6), e(26, 3, 0, 0), e(26, 2, 0, 0), e(11, 1, 0, 0));
        code("two tables", Mod.single(0, 0, 0, Mod.b(2, 64, 65, 0, 14, 2, 0, 1, 0, 11, 2, 64, 65, 0, 14, 1, 1, 0, 11)),
            e(2, 0, 0, 0), e(65, 0, 0, 0), e(14, 1, 2, 0), e(12, 0, 6, 0), e(12, 0, 11, 0), e(12, 0, 6, 0),
            e(2, 0, 0, 0), e(65, 0, 0, 0), e(14, 1, 1, 0), e(12, 0, 11, 0), e(12, 0, 11, 0), e(11, 0, 0, 0));
        code("the last alone", Mod.single(0, 0, 0, Mod.b(3, 64, 65, 0, 14, 0, 0, 11)),
            e(3, 0, 0, 0), e(65, 0, 0, 0), e(14, 1, 0, 0), e(12, 0, 1, 0), e(11, 0, 0, 0));
    }

    private static void elsesAndTheirIfs() {
        Check.says("An else is such an instruction, if its if can be come to");
        code("its if can be come to", Mod.single(1, 0, 0, Mod.b(32, 0, 4, 64, 1, 5, 1, 11)),
            e(32, 1, 0, 0), e(4, 2, 4, 0), e(1, 1, 0, 0), e(5, 1, 5, 0), e(1, 1, 0, 0), e(11, 1, 0, 0));
        code("its if cannot be come to", Mod.single(1, 0, 0, Mod.b(15, 32, 0, 4, 64, 1, 5, 1, 11, 1)), e(15, 1, 0, 0), e(11, 1, 0, 0));
        code("behind a block that leads away", Mod.single(1, 0, 0, Mod.b(32, 0, 4, 64, 2, 64, 15, 11, 5, 1, 11)),
            e(32, 1, 0, 0), e(4, 2, 5, 0), e(2, 1, 0, 0), e(15, 1, 0, 0), e(5, 1, 6, 0), e(1, 1, 0, 0), e(11, 1, 0, 0));
    }

    private static void elsesBehindThoseFour() {
        Check.says("but it has no entry if it stands behind one of those four (what is behind it can be come to)");
        for (int[] away : AWAY) {
            int op = away[0];
            code("at once behind " + op, Mod.single(1, 0, 0, Mod.b(32, 0, 4, 64), away, Mod.b(5, 1, 11)),
                e(32, 1, 0, 0), e(4, 2, 3, 0), e(op, 1, word2(op, 4), op == 12 ? 2 : 0), e(1, 1, 0, 0), e(11, 1, 0, 0));
            code("later behind " + op, Mod.single(1, 0, 0, Mod.b(32, 0, 4, 64), away, Mod.b(1, 2, 64, 11, 5, 1, 11)),
                e(32, 1, 0, 0), e(4, 2, 3, 0), e(op, 1, word2(op, 4), op == 12 ? 2 : 0), e(1, 1, 0, 0), e(11, 1, 0, 0));
        }
        code("behind br_table", Mod.single(1, 0, 0, Mod.b(32, 0, 4, 64, 32, 0, 14, 0, 0, 5, 1, 11)),
            e(32, 1, 0, 0), e(4, 2, 5, 0), e(32, 1, 0, 0), e(14, 2, 0, 0), e(12, 1, 6, 2), e(1, 1, 0, 0), e(11, 1, 0, 0));
        code("an empty one behind return", Mod.single(1, 0, 0, Mod.b(32, 0, 4, 64, 15, 5, 11)),
            e(32, 1, 0, 0), e(4, 2, 3, 0), e(15, 1, 0, 0), e(11, 1, 0, 0));
        code("with a result", Mod.single(1, 1, 0, Mod.b(32, 0, 4, 127, 0, 1, 5, 65, 2, 11)),
            e(32, 1, 0, 0), e(4, 2, 3, 0), e(0, 1, 0, 0), e(65, 1, 2, 0), e(11, 2, 0, 1));
    }

    private static void toALoop() {
        Check.says("Who leads to a loop goes to the entry of its first instruction");
        code("br to a loop", Mod.single(0, 0, 0, Mod.b(3, 64, 1, 12, 0, 11)), e(3, 0, 0, 0), e(1, 0, 0, 0), e(12, 0, 1, 0), e(11, 0, 0, 0));
        code("br that is a loop's first", Mod.single(0, 0, 0, Mod.b(3, 64, 12, 0, 11)), e(3, 0, 0, 0), e(12, 0, 1, 0), e(11, 0, 0, 0));
        code("a loop in a loop", Mod.single(0, 0, 0, Mod.b(3, 64, 3, 64, 65, 1, 13, 0, 12, 1, 11, 11)),
            e(3, 0, 0, 0), e(3, 0, 0, 0), e(65, 0, 1, 0), e(13, 1, 2, 0), e(12, 0, 1, 0), e(11, 0, 0, 0));
        code("a block that is a loop's first", Mod.single(0, 0, 0, Mod.b(1, 3, 64, 2, 64, 12, 1, 11, 11)),
            e(1, 0, 0, 0), e(3, 0, 0, 0), e(2, 0, 0, 0), e(12, 0, 2, 0), e(11, 0, 0, 0));
    }

    private static void toABlockOrAnIf() {
        Check.says("to a block or an if, to the one that would stand where its end stands");
        code("an if, and a block around it", Mod.single(1, 0, 0,
            Mod.b(2, 64, 65, 9, 32, 0, 4, 64, 12, 0, 5, 12, 1, 11, 26, 11)),
            e(2, 1, 0, 0), e(65, 1, 9, 0), e(32, 2, 0, 0), e(4, 3, 5, 0), e(12, 2, 6, 4), e(12, 2, 7, 2), e(26, 2, 0, 0),
            e(11, 1, 0, 0));
        code("ends behind one another", Mod.single(0, 0, 0, Mod.b(2, 64, 2, 64, 12, 0, 11, 11)),
            e(2, 0, 0, 0), e(2, 0, 0, 0), e(12, 0, 3, 0), e(11, 0, 0, 0));
        code("an end before an else", Mod.single(1, 0, 0, Mod.b(32, 0, 4, 64, 2, 64, 12, 0, 11, 5, 1, 11)),
            e(32, 1, 0, 0), e(4, 2, 5, 0), e(2, 1, 0, 0), e(12, 1, 4, 2), e(5, 1, 6, 0), e(1, 1, 0, 0), e(11, 1, 0, 0));
        code("an end behind what cannot be come to", Mod.single(0, 0, 0, Mod.b(2, 64, 12, 0, 1, 1, 11, 1)),
            e(2, 0, 0, 0), e(12, 0, 2, 0), e(1, 0, 0, 0), e(11, 0, 0, 0));
        code("a block at a loop's end", Mod.single(0, 0, 0, Mod.b(3, 64, 2, 64, 12, 0, 11, 11, 1)),
            e(3, 0, 0, 0), e(2, 0, 0, 0), e(12, 0, 3, 0), e(1, 0, 0, 0), e(11, 0, 0, 0));
    }

    private static void toTheBody() {
        Check.says("to the body, to that of its end.");
        code("from a block", Mod.single(1, 1, 2, Mod.b(2, 64, 65, 7, 12, 1, 11, 65, 8)),
            e(2, 3, 0, 0), e(65, 3, 7, 0), e(12, 4, 4, 7), e(65, 3, 8, 0), e(11, 4, 0, 1));
        code("from the body", Mod.single(0, 0, 0, Mod.b(65, 1, 13, 0, 1, 12, 0)),
            e(65, 0, 1, 0), e(13, 1, 4, 0), e(1, 0, 0, 0), e(12, 0, 4, 0), e(11, 0, 0, 0));
        code("from ten blocks", Mod.single(0, 0, 0, Mod.repeat(10, 2, 64), Mod.b(12, 10), Mod.repeat(10, 11), Mod.b(1)),
            e(2, 0, 0, 0), e(2, 0, 0, 0), e(2, 0, 0, 0), e(2, 0, 0, 0), e(2, 0, 0, 0), e(2, 0, 0, 0), e(2, 0, 0, 0), e(2, 0, 0, 0),
            e(2, 0, 0, 0), e(2, 0, 0, 0), e(12, 0, 12, 0), e(1, 0, 0, 0), e(11, 0, 0, 0));
    }

    /** As many instructions as 240 bytes have room for; the words are read by several objects, of 512 calls each. */
    private static void theLongestCode() {
        Check.says("A word of it");
        int nops = 240 - Mod.module(Mod.types(Mod.type(0, 0)), Mod.functions(0), Mod.code(Mod.body(0))).length - 2;
        int[] module = Mod.module(Mod.types(Mod.type(0, 0)), Mod.functions(0), Mod.code(Mod.body(0, Mod.repeat(nops, 1))));
        Check.due("a module of 240 bytes", module.length, 240);
        int length = 4 * (nops + 1);
        for (int from = 0; from <= length; from += 200) {
            WasmMachine machine = Check.ready("the longest code", module);
            Check.due("rcodeLen", machine.rcodeLen(), length);
            for (int i = from; i < from + 200; i++) {
                int want = i >= length ? -1 : i % 4 != 0 ? 0 : i == length - 4 ? 11 : 1;
                Check.due("rcode(" + i + ")", machine.rcode(i), want);
            }
        }
        Check.costs("all of it", module, 1, nops);
    }
}
