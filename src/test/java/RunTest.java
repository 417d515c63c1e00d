/** Promise 7, RUNNING: what instructions do, by both engines (FuelTest counts them, TrapsTest has those that trap). */
public final class RunTest {
    private static final int MIN = Integer.MIN_VALUE;
    private static final int MAX = Integer.MAX_VALUE;
    private static final int UNREACHABLE = 2;
    private static final int CALLS = 6;

    public static void main(String[] args) {
        unary();
        binary();
        divisions();
        locals();
        variables();
        nothingElse();
        control();
        deepest();
        tables();
        calls();
        Check.finish();
    }

    private static void one(int op, int a, int want) {
        Check.returns(op + " of " + a, Mod.single(1, 1, 0, Mod.b(32, 0, op)), want, a);
    }

    private static void two(int op, int a, int b, int want) {
        Check.returns(op + " of " + a + ", " + b, Mod.single(2, 1, 0, Mod.b(32, 0, 32, 1, op)), want, a, b);
    }

    private static void unary() {
        Check.says("as the specification has it");
        one(69, 0, 1);
        one(69, MIN, 0);
        one(103, 0, 32);
        one(103, 1, 31);
        one(103, -1, 0);
        one(104, 0, 32);
        one(104, MIN, 31);
        one(104, 5, 0);
        one(105, -1, 32);
        one(105, 0, 0);
        one(105, 0x70F0, 7);
    }

    private static void binary() {
        Check.says("values are i32 (127)");
        int[][] pairs = {{0, 0}, {1, 2}, {2, 1}, {-1, 1}, {1, -1}, {MIN, MAX}, {MAX, MIN}, {-1, -1}};
        for (int[] pair : pairs) {
            int a = pair[0];
            int b = pair[1];
            int unsigned = Integer.compareUnsigned(a, b);
            two(70, a, b, a == b ? 1 : 0);
            two(71, a, b, a != b ? 1 : 0);
            two(72, a, b, a < b ? 1 : 0);
            two(73, a, b, unsigned < 0 ? 1 : 0);
            two(74, a, b, a > b ? 1 : 0);
            two(75, a, b, unsigned > 0 ? 1 : 0);
            two(76, a, b, a <= b ? 1 : 0);
            two(77, a, b, unsigned <= 0 ? 1 : 0);
            two(78, a, b, a >= b ? 1 : 0);
            two(79, a, b, unsigned >= 0 ? 1 : 0);
            two(106, a, b, a + b);
            two(107, a, b, a - b);
            two(108, a, b, a * b);
        }
        two(108, 123456789, 987654321, 123456789 * 987654321);
        int[] numbers = {0, 1, -1, 2, -2, 7, 31, 32, 33, -31, -32, 64, MIN, MAX, MIN + 1, 0x12345678, 0x80000001, 0xF0F0F0F0};
        for (int a : numbers) {
            for (int b : numbers) {
                two(113, a, b, ~(~a | ~b));
                two(114, a, b, ~(~a & ~b));
                two(115, a, b, (a | b) - (a & b));
                long power = 1L << Math.floorMod(b, 32);
                two(116, a, b, (int) (a * power));
                two(117, a, b, (int) Math.floorDiv((long) a, power));
                two(118, a, b, (int) ((a & 0xFFFFFFFFL) / power));
                two(119, a, b, Integer.rotateLeft(a, b));
                two(120, a, b, Integer.rotateRight(a, b));
            }
        }
        two(113, 12, 10, 8);
        two(114, 12, 10, 14);
        two(115, 12, 10, 6);
        two(116, 1, 31, MIN);
        two(116, 3, 33, 6);
        two(117, MIN, 31, -1);
        two(117, -8, 33, -4);
        two(118, MIN, 31, 1);
        two(118, -8, 32, -8);
        two(119, 0x80000001, 1, 3);
        two(119, 5, 32, 5);
        two(119, 0x12345678, 36, 0x23456781);
        two(120, 3, 1, 0x80000001);
        two(120, 5, 0, 5);
        two(120, 0x12345678, -4, 0x23456781);
    }

    private static void divisions() {
        Check.says("as the specification has it");
        two(109, 7, -2, -3);
        two(109, MIN, 1, MIN);
        two(109, MIN, 2, MIN / 2);
        two(110, 7, 2, 3);
        two(110, MIN, -1, 0);
        two(110, -1, 2, MAX);
        two(110, MIN, MIN, 1);
        two(111, -7, 2, -1);
        two(111, 7, -2, 1);
        two(111, MIN, -1, 0);
        two(112, -1, 10, 5);
        two(112, MIN, -1, MIN);
        int[] numbers = {1, -1, 2, -2, 3, 7, -7, 10, MIN, MAX, MIN + 1, 0x12345678};
        for (int a : numbers) {
            for (int b : numbers) {
                if (a != MIN || b != -1) {
                    two(109, a, b, (int) ((long) a / b));
                }
                two(110, a, b, Integer.divideUnsigned(a, b));
                two(111, a, b, (int) ((long) a % b));
                two(112, a, b, Integer.remainderUnsigned(a, b));
            }
        }
    }

    private static void locals() {
        Check.says("A function runs with arguments, its other locals 0");
        int[] counts = {0, 1, 2, 3, 4};
        int[] arguments = {7, -8, Integer.MAX_VALUE, Integer.MIN_VALUE};
        for (int count : counts) {
            int[] given = java.util.Arrays.copyOf(arguments, count);
            for (int local = 0; local < 12; local++) {
                Check.returns("local " + local + " of " + count, Mod.single(count, 1, 12 - count, Mod.b(32, local)),
                    local < count ? arguments[local] : 0, given);
            }
        }
        int[] fill = Mod.single(1, 1, 3, Mod.b(32, 1, 32, 2, 114, 32, 3, 114, 65, 9, 34, 1, 34, 2, 33, 3, 32, 0, 33, 0));
        for (int engine = 0; engine < 2; engine++) {
            WasmMachine machine = Check.ready("locals of an earlier run", fill);
            for (int i = 0; i < 4; i++) {
                Check.start("locals of an earlier run", machine, 0, i < 2 ? engine : 1 - engine, 5);
                Check.due("locals of an earlier run: run", machine.run(50), 1);
                Check.due("they are 0 again", machine.result(), 0);
            }
        }
    }

    private static void variables() {
        Check.says("A module that was loaded has its memory, data and globals as they say.");
        Check.returns("a local is 0 at first", Mod.single(0, 1, 2, Mod.b(32, 1)), 0);
        int[] globals = Mod.globals(Mod.global(0, 0), Mod.global(1, -1), Mod.global(0, MIN), Mod.global(1, MAX));
        int[] values = {0, -1, MIN, MAX};
        for (int i = 0; i < 4; i++) {
            Check.returns("global " + i, Mod.module(Mod.types(Mod.type(0, 1)), Mod.functions(0), globals,
                Mod.code(Mod.body(0, Mod.b(35, i)))), values[i]);
        }
        Check.returns("local.set", Mod.single(0, 1, 2, Mod.b(65, 9, 33, 1, 32, 1, 32, 0, 107)), 9);
        Check.returns("local.tee", Mod.single(1, 1, 1, Mod.b(65, 9, 34, 1, 32, 1, 106)), 18, 1);
        Check.returns("arguments in their order", Mod.single(4, 1, 0,
            Mod.b(32, 0, 65, 10, 108, 32, 1, 106, 65, 10, 108, 32, 2, 106, 65, 10, 108, 32, 3, 106)), 1234, 1, 2, 3, 4);
        Check.returns("a global", Mod.single(0, 1, 0, Mod.b(35, 0)), 5);
        Check.returns("select 1", Mod.single(0, 1, 0, Mod.b(65, 7, 65, 8, 65, 1, 27)), 7);
        Check.returns("select 0", Mod.single(0, 1, 0, Mod.b(65, 7, 65, 8, 65, 0, 27)), 8);
        Check.returns("drop", Mod.single(0, 1, 0, Mod.b(65, 7, 65, 8, 26)), 7);
        WasmMachine machine = Check.ready("a global goes on", Mod.single(0, 1, 1,
            Mod.b(35, 0, 65, 1, 106, 36, 0, 32, 0, 65, 1, 106, 34, 0, 26, 35, 0)));
        for (int i = 6; i < 10; i++) {
            Check.start("a global goes on", machine, 0, i & 1);
            Check.due("a global goes on: run", machine.run(50), 1);
            Check.due("a global goes on: result", machine.result(), i);
        }
    }

    /** One instruction, with two locals and an operand below it that are 1, as are its own operands. */
    private static void alone(int op, int takes, int gives, int result, int... bytes) {
        int[] sum = Mod.b(65, 10, 108, 106, 32, 0, 65, 228, 0, 108, 106, 32, 1, 65, 232, 7, 108, 106);
        int[] module = Mod.module(Mod.types(Mod.type(2, 1), Mod.type(0, 1)), Mod.functions(0, 1), Mod.memory(1, 3),
            Mod.globals(Mod.global(1, 1)), Mod.code(
                Mod.body(0, Mod.b(65, 1), Mod.repeat(takes, 65, 1), bytes, gives == 1 ? Mod.b() : Mod.b(65, 0), sum),
                Mod.body(0, Mod.b(35, 0, 63, 0, 65, 10, 108, 106))));
        Check.returns("only its own: " + op, module, 1101 + 10 * result, 1, 1);
        int pages = op == 64 ? 2 : 1;
        for (int engine = 0; engine < 2; engine++) {
            WasmMachine machine = Check.ready("only its own: " + op, module);
            Check.start("only its own: " + op, machine, 0, engine, 1, 1);
            Check.due("only its own: run", machine.run(50), 1);
            Check.start("only its own: " + op, machine, 1, engine);
            Check.due("only its own: run", machine.run(50), 1);
            Check.due(op + " leaves the global and the pages", machine.result(), 1 + 10 * pages);
            for (int at = 0; at < 8; at++) {
                Check.due(op + " leaves byte " + at, machine.peekMem(at), op >= 54 && op <= 59 && at == 1 ? 1 : 0);
            }
        }
    }

    private static void nothingElse() {
        Check.says("as the specification has it; fuel");
        alone(1, 0, 0, 0, 1);
        alone(26, 1, 0, 0, 26);
        alone(27, 3, 1, 1, 27);
        alone(32, 0, 1, 1, 32, 0);
        alone(33, 1, 0, 0, 33, 1);
        alone(34, 1, 1, 1, 34, 1);
        alone(35, 0, 1, 1, 35, 0);
        alone(36, 1, 0, 0, 36, 0);
        for (int op : new int[] {40, 44, 45, 46, 47}) {
            alone(op, 1, 1, 0, op, 0, 0);
        }
        for (int op : new int[] {54, 58, 59}) {
            alone(op, 2, 0, 0, op, 0, 0);
        }
        alone(63, 0, 1, 1, 63, 0);
        alone(64, 1, 1, 1, 64, 0);
        alone(65, 0, 1, 5, 65, 5);
        int[] results = {1, 0, 0, 0, 0, 0, 1, 1, 1, 1};
        for (int op = 70; op <= 79; op++) {
            alone(op, 2, 1, results[op - 70], op);
        }
        alone(69, 1, 1, 0, 69);
        alone(103, 1, 1, 31, 103);
        alone(104, 1, 1, 0, 104);
        alone(105, 1, 1, 1, 105);
        int[] others = {2, 0, 1, 1, 1, 0, 0, 1, 1, 0, 2, 0, 0, 2, MIN};
        for (int op = 106; op <= 120; op++) {
            alone(op, 2, 1, others[op - 106], op);
        }
    }

    private static void control() {
        Check.says("A function runs with arguments, its other locals 0, as the specification has it");
        int[] choose = Mod.single(1, 1, 0, Mod.b(32, 0, 4, 127, 65, 1, 5, 65, 2, 11));
        Check.returns("if", choose, 1, -5);
        Check.returns("else", choose, 2, 0);
        int[] without = Mod.single(1, 1, 1, Mod.b(32, 0, 4, 64, 65, 3, 33, 1, 11, 32, 1));
        Check.returns("if without else, taken", without, 3, 1);
        Check.returns("if without else", without, 0, 0);
        Check.returns("br leaves what lies below", Mod.single(0, 1, 0,
            Mod.b(65, 1, 2, 127, 65, 20, 65, 30, 65, 40, 12, 0, 11, 106)), 41);
        Check.returns("br_if leaves the result", Mod.single(1, 1, 0,
            Mod.b(2, 127, 65, 20, 32, 0, 13, 0, 65, 5, 106, 11)), 25, 0);
        Check.returns("br_if leads away with the result", Mod.single(1, 1, 0,
            Mod.b(2, 127, 65, 9, 65, 20, 32, 0, 13, 0, 106, 11)), 20, 1);
        Check.returns("br over three", Mod.single(0, 1, 0,
            Mod.b(65, 1, 2, 127, 65, 2, 3, 64, 65, 3, 65, 0, 4, 64, 5, 65, 7, 12, 2, 11, 26, 11, 11, 106)), 8);
        Check.returns("br to the body", Mod.single(0, 1, 0, Mod.b(65, 1, 2, 64, 65, 6, 12, 1, 11)), 6);
        Check.returns("return from within", Mod.single(0, 1, 0, Mod.b(65, 1, 2, 64, 3, 64, 65, 6, 15, 11, 11)), 6);
        Check.returns("a sum by a loop", Mod.single(1, 1, 1, Mod.b(3, 127, 32, 0, 32, 1, 106, 33, 1, 32, 0, 65, 1, 107,
            34, 0, 13, 0, 32, 1, 11)), 5050, 100);
        Check.returns("a loop drops operands when it begins again", Mod.single(1, 1, 0,
            Mod.b(65, 9, 3, 127, 65, 1, 65, 2, 32, 0, 65, 1, 107, 34, 0, 13, 0, 106, 11, 106)), 12, 40);
        Check.returns("a loop's end lets through", Mod.single(0, 1, 0, Mod.b(3, 64, 1, 11, 65, 4)), 4);
        Check.returns("else at the end of an else", Mod.single(2, 1, 0, Mod.b(32, 0, 4, 127, 32, 1, 4, 127, 65, 1, 5, 65, 2,
            11, 5, 32, 1, 4, 127, 65, 3, 5, 65, 4, 11, 11)), 2, 1, 0);
        Check.ends("unreachable", Mod.single(0, 1, 0, Mod.b(0)), UNREACHABLE, 0);
    }

    /** In each of eight calls twelve locals, ten blocks in one another and sixteen operands: all room is in use at once. */
    private static void deepest() {
        Check.says("both do the same, instruction for instruction");
        int[] module = Mod.module(Mod.types(Mod.type(1, 1)), Mod.functions(0), Mod.code(Mod.body(11,
            Mod.repeat(9, 2, 127, 65, 1),
            Mod.b(32, 0, 34, 11, 4, 127), Mod.repeat(4, 65, 2), Mod.b(65, 10, 32, 11, 65, 1, 107, 16, 0, 106, 12, 9),
            Mod.b(5, 65, 7, 12, 8, 11),
            Mod.repeat(9, 106, 11), Mod.b(65, 1, 106, 32, 0, 32, 11, 107, 106))));
        Check.returns("one deep call", module, 9, 0);
        Check.returns("two deep calls", module, 20, 1);
        Check.returns("eight deep calls", module, 86, 7);
        Check.ends("nine deep calls", module, CALLS, 0, 8);
        int[] results = Mod.cat(Mod.repeat(10, 2, 127), Mod.b(65, 5, 65, 6, 12, 0), Mod.repeat(10, 11));
        Check.returns("results of ten blocks", Mod.single(0, 1, 0, Mod.con(3), results, Mod.b(106)), 9);
    }

    private static void tables() {
        Check.says("8 places in a br_table (without the last one)");
        int[] module = Mod.single(1, 1, 0, Mod.b(2, 64, 2, 64, 2, 64, 65, 8, 32, 0, 14, 3, 1, 0, 2, 1, 11, 65, 10, 15, 11,
            65, 20, 15, 11, 65, 30));
        Check.returns("place 0", module, 20, 0);
        Check.returns("place 1", module, 10, 1);
        Check.returns("place 2", module, 30, 2);
        Check.returns("the last place", module, 20, 3);
        Check.returns("behind the last place", module, 20, 4);
        Check.returns("a place without sign", module, 20, -1);
        Check.returns("a place without sign", module, 20, MIN);
        int[] body = Mod.single(1, 1, 0, Mod.b(65, 3, 2, 127, 65, 7, 32, 0, 14, 1, 0, 1, 11, 106));
        Check.returns("to a block with a result", body, 10, 0);
        Check.returns("to the body with a result", body, 7, 1);
        int[] eight = Mod.single(1, 1, 0, Mod.b(2, 64, 2, 64, 32, 0, 14, 8), Mod.repeat(8, 0),
            Mod.b(1, 11, 65, 10, 15, 11, 65, 20));
        Check.returns("the eighth place", eight, 10, 7);
        Check.returns("behind eight places", eight, 20, 8);
        Check.returns("no places", Mod.single(1, 1, 0, Mod.b(65, 7, 32, 0, 14, 0, 0)), 7, 5);
        int[] tables = Mod.single(2, 1, 1, Mod.b(2, 64, 2, 64, 32, 0, 14, 1, 0, 1, 11, 65, 10, 33, 2, 11,
            2, 64, 2, 64, 32, 1, 14, 1, 1, 0, 11, 65, 5, 32, 2, 106, 33, 2, 11, 32, 2));
        Check.returns("two tables, 0 and 0", tables, 10, 0, 0);
        Check.returns("two tables, 0 and 1", tables, 15, 0, 1);
        Check.returns("two tables, 1 and 0", tables, 0, 1, 0);
        Check.returns("two tables, 1 and 1", tables, 5, 1, 1);
    }

    private static void calls() {
        Check.says("A function runs with arguments, its other locals 0, as the specification has it");
        int[] down = Mod.module(Mod.types(Mod.type(1, 1)), Mod.functions(0), Mod.globals(Mod.global(1, 0)),
            Mod.code(Mod.body(1, Mod.b(35, 0, 65, 1, 106, 36, 0, 32, 0, 69, 4, 127, 35, 0, 5, 65, 50, 32, 0, 65, 1, 107, 16, 0,
                106, 32, 1, 106, 11))));
        Check.returns("one call", down, 1, 0);
        Check.returns("eight calls", down, 358, 7);
        Check.ends("nine calls", down, CALLS, 0, 8);
        int[] several = Mod.module(Mod.types(Mod.type(2, 1), Mod.type(0, 1), Mod.type(0, 0)), Mod.functions(1, 0, 2),
            Mod.code(Mod.body(0, Mod.b(65, 50, 65, 8, 65, 3, 16, 1, 16, 2, 107)),
                Mod.body(1, Mod.b(65, 1, 32, 0, 32, 1, 107, 34, 2, 15)), Mod.body(0)));
        Check.returns("calls of others", several, 45);
        int[] twice = Mod.module(Mod.types(Mod.type(0, 1)), Mod.functions(0, 0), Mod.code(
            Mod.body(1, Mod.b(2, 64, 65, 1, 4, 64, 16, 1, 33, 0, 12, 1, 11, 0, 11, 32, 0, 16, 1, 106)),
            Mod.body(2, Mod.b(2, 127, 32, 1, 65, 21, 34, 1, 106, 11))));
        Check.returns("locals are 0 in each call, and blocks go on behind it", twice, 42);
        int[] others = Mod.module(Mod.types(Mod.type(1, 1), Mod.type(0, 0)), Mod.functions(0, 0, 1), Mod.globals(Mod.global(1, 0)),
            Mod.code(Mod.body(1, Mod.b(65, 228, 0, 32, 0, 16, 1, 34, 1, 106, 16, 2, 32, 1, 106, 35, 0, 106)),
                Mod.body(1, Mod.b(2, 64, 32, 0, 4, 64, 65, 7, 15, 11, 65, 9, 12, 1, 11, 65, 11)),
                Mod.body(0, Mod.b(65, 3, 36, 0, 2, 64, 15, 11, 65, 4, 36, 0))));
        Check.returns("return from a call, and what stands behind it", others, 117, 1);
        Check.returns("br from a call, and what stands behind it", others, 121, 0);
        int[] trapInside = Mod.module(Mod.types(Mod.type(0, 1)), Mod.functions(0, 0),
            Mod.code(Mod.body(0, Mod.b(16, 1)), Mod.body(0, Mod.b(65, 7, 0))));
        Check.ends("a trap in a call ends all", trapInside, UNREACHABLE, 0);
    }
}
