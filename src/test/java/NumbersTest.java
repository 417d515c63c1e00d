/** Promise 3, LOADING: which numbers are MALFORMED, at each place of a module where one stands. */
public final class NumbersTest {
    private static final int MALFORMED = 1;

    public static void main(String[] args) {
        atMostFiveBytes();
        unusedBits();
        allFifthBytesWithoutSign();
        allFifthBytesWithSign();
        whichNumbersHaveASign();
        numbersThatEndTooEarly();
        Check.finish();
    }

    /** A module with a number at each place where one can stand; one of them is written in five bytes, or in six. */
    private static final class Numbered {
        private final int chosen;
        private final int flipped;
        private final boolean six;
        private int seen;

        Numbered(int chosen, int flipped, boolean six) {
            this.chosen = chosen;
            this.flipped = flipped;
            this.six = six;
        }

        private int[] number(int number, boolean sign) {
            seen++;
            if (seen - 1 != chosen) {
                return sign ? Mod.signed(number) : Mod.unsigned(number);
            }
            int last = sign ? number >> 28 & 127 : number >>> 28;
            int[] five = Mod.b(number & 127 | 128, number >> 7 & 127 | 128, number >> 14 & 127 | 128,
                number >> 21 & 127 | 128, (last ^ flipped) | (six ? 128 : 0));
            return six ? Mod.cat(five, Mod.b(sign && number < 0 ? 127 : 0)) : five;
        }

        private int[] u(int number) {
            return number(number, false);
        }

        private int[] s(int number) {
            return number(number, true);
        }

        private int[] sized(int[]... parts) {
            int[] content = Mod.cat(parts);
            return Mod.cat(u(content.length), content);
        }

        private int[] section(int id, int[]... parts) {
            return Mod.cat(Mod.b(id), sized(parts));
        }

        private int[] body() {
            int[] variables = Mod.cat(Mod.b(32), u(0), Mod.b(33), u(1), Mod.b(65), s(4), Mod.b(34), u(1), Mod.b(26, 35),
                u(0), Mod.b(36), u(0));
            int[] accesses = Mod.cat(Mod.b(65, 0, 40), u(2), u(3), Mod.b(26, 65, 0, 65, 7, 58), u(0), u(9));
            int[] branches = Mod.cat(Mod.b(2, 64, 12), u(0), Mod.b(11, 2, 64, 65, 0, 13), u(0), Mod.b(11, 2, 64, 65, 0, 14),
                u(1), u(0), u(0), Mod.b(11));
            return Mod.cat(variables, accesses, branches, Mod.b(65), s(-9), Mod.b(16), u(1), Mod.b(35), u(0), Mod.b(108, 11));
        }

        int[] module() {
            int[] types = section(1, u(1), Mod.b(96), u(1), Mod.b(127), u(1), Mod.b(127));
            int[] functions = section(3, u(2), u(0), u(0));
            int[] memory = section(5, u(1), Mod.b(1), u(1), u(2));
            int[] globals = section(6, u(1), Mod.b(127, 1, 65), s(-3), Mod.b(11));
            int[] exports = section(7, u(1), u(1), Mod.b(97, 0), u(1));
            int[] code = section(10, u(2), sized(u(1), u(1), Mod.b(127), body()), sized(u(0), Mod.b(32), u(0), Mod.b(11)));
            int[] data = section(11, u(1), u(0), Mod.b(65), s(5), Mod.b(11), sized(Mod.b(200, 201)));
            return Mod.module(types, functions, memory, globals, exports, code, data);
        }
    }

    private static int numbersInAll() {
        Numbered plain = new Numbered(-1, 0, false);
        plain.module();
        return plain.seen;
    }

    private static void atMostFiveBytes() {
        Check.says("a number that is not unsigned (or, of i32.const and initial values, signed) LEB128 of 32 bits, in at most 5 bytes");
        int count = numbersInAll();
        Check.due("numbers of the module", count, 50);
        for (int i = -1; i < count; i++) {
            int[] five = new Numbered(i, 0, false).module();
            Check.returns("number " + i + " in five bytes", five, 27, 1);
            WasmMachine machine = Check.ready("number " + i + " in five bytes", five);
            Check.due("its data", machine.peekMem(5), 200);
            Check.due("its data", machine.peekMem(6), 201);
            Check.due("its words", machine.rcodeLen(), 4 * 30);
            if (i >= 0) {
                Check.loads("number " + i + " in six bytes", MALFORMED, new Numbered(i, 0, true).module());
            }
        }
    }

    private static void unusedBits() {
        Check.says("with the unused bits of a fifth one as they have to be");
        int count = numbersInAll();
        for (int i = 0; i < count; i++) {
            for (int bit = 16; bit <= 64; bit *= 2) {
                Check.loads("number " + i + " with bit " + bit, MALFORMED, new Numbered(i, bit, false).module());
            }
        }
    }

    private static void allFifthBytesWithoutSign() {
        Check.says("a number that is not unsigned (or, of i32.const and initial values, signed) LEB128 of 32 bits, in at most 5 bytes, with the unused bits of a fifth one as they have to be");
        for (int last = 0; last < 256; last++) {
            int[] module = Mod.single(0, 1, 0, Mod.b(65, 0, 40, 0, 128, 128, 128, 128, last));
            Check.loads("an offset with last " + last, last < 16 ? 0 : MALFORMED, module);
        }
    }

    private static void allFifthBytesWithSign() {
        Check.says("signed) LEB128 of 32 bits, in at most 5 bytes, with the unused bits of a fifth one as they have to be");
        for (int last = 0; last < 256; last++) {
            boolean right = last < 8 || last >= 120 && last < 128;
            int[] constant = Mod.single(0, 1, 0, Mod.b(65, 128, 128, 128, 128, last));
            int[] global = Mod.module(Mod.section(6, Mod.b(1, 127, 0, 65, 128, 128, 128, 128, last, 11)));
            int[] data = Mod.module(Mod.memory(1), Mod.section(11, Mod.b(1, 0, 65, 128, 128, 128, 128, last, 11, 0)));
            Check.loads("a global with last " + last, right ? 0 : MALFORMED, global);
            Check.loads("a place with last " + last, right ? last == 0 ? 0 : 4 : MALFORMED, data);
            if (right) {
                Check.returns("const with last " + last, constant, last << 28);
            } else {
                Check.loads("const with last " + last, MALFORMED, constant);
            }
        }
    }

    private static void whichNumbersHaveASign() {
        Check.says("of i32.const and initial values, signed");
        int[][] bytes = {{0}, {63}, {64}, {127}, {192, 0}, {191, 127}, {255, 126}, {255, 0}, {255, 255, 127},
            {255, 255, 255, 255, 7}, {128, 128, 128, 128, 120}, {255, 255, 255, 255, 127}, {128, 128, 128, 64}};
        int[] numbers = {0, 63, -64, -1, 64, -65, -129, 127, -1, Integer.MAX_VALUE, Integer.MIN_VALUE, -1, -(1 << 27)};
        for (int i = 0; i < bytes.length; i++) {
            Check.returns("const " + numbers[i], Mod.single(0, 1, 0, Mod.b(65), bytes[i]), numbers[i]);
            int[] global = Mod.module(Mod.types(Mod.type(0, 1)), Mod.functions(0),
                Mod.section(6, Mod.b(1, 127, 0, 65), bytes[i], Mod.b(11)), Mod.code(Mod.body(0, Mod.b(35, 0))));
            Check.returns("a global " + numbers[i], global, numbers[i]);
        }
        Check.loads("a place of 100 in two bytes", 0, Mod.module(Mod.memory(4), Mod.data(Mod.dataAt(100, 1))));
        Check.loads("a place of byte 100 is -28", 4, Mod.module(Mod.memory(4), Mod.section(11, Mod.b(1, 0, 65, 100, 11, 1, 1))));
        Check.loads("an offset of byte 127 is 127", 0, Mod.single(0, 1, 0, Mod.b(65, 0, 40, 0, 127)));
        Check.due("its word", Check.ready("an offset of byte 127", Mod.single(0, 1, 0, Mod.b(65, 0, 40, 0, 127))).rcode(6), 127);
        Check.loads("a most of byte 64 is 64", 0, Mod.module(Mod.section(5, Mod.b(1, 1, 4, 64))));
    }

    private static void numbersThatEndTooEarly() {
        Check.says("something ends too early (the module, a section, a body)");
        for (int bytes = 0; bytes < 5; bytes++) {
            int[] part = Mod.repeat(bytes, 128);
            Check.loads("a section's length of " + bytes, MALFORMED, Mod.module(Mod.b(1), part));
            Check.loads("a count of " + bytes, MALFORMED, Mod.module(Mod.section(1, part), Mod.functions()));
            Check.loads("a body's last number of " + bytes, MALFORMED, Mod.module(Mod.types(Mod.type(0, 0)), Mod.functions(0),
                Mod.code(Mod.rawBody(Mod.b(0, 65), part)), Mod.data()));
        }
    }
}
