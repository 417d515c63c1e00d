/** Promises 4, 10 and 11: the register code, word for word. */
public final class RegisterCodeTest {
    public static void main(String[] args) {
        simple();
        branches();
        ifsAndElses();
        whatCannotBeComeTo();
        tables();
        calls();
        whichWords();
        Check.finish();
    }

    private static void code(String what, int[] module, int[]... entries) {
        WasmMachine machine = Check.ready(what, module);
        int[] words = Mod.cat(entries);
        Check.due(what + ": rcodeLen", machine.rcodeLen(), words.length);
        for (int i = 0; i < words.length; i++) {
            Check.due(what + ": rcode(" + i + ")", machine.rcode(i), words[i]);
        }
        Check.due(what + ": rcode behind", machine.rcode(words.length), -1);
    }

    private static int[] e(int op, int top, int second, int third) {
        return new int[] {op, top, second, third};
    }

    private static void simple() {
        code("nothing", Mod.single(0, 0, 0), e(11, 0, 0, 0));
        code("locals alone", Mod.single(1, 0, 2), e(11, 3, 0, 0));
        code("no functions", Mod.module());
        code("a result", Mod.single(1, 1, 1, Mod.con(-77)), e(65, 2, -77, 0), e(11, 3, 0, 1));
        code("each kind", Mod.single(1, 0, 2, Mod.b(1, 32, 1, 34, 2, 33, 0, 35, 0, 36, 0, 65, 1, 40, 2, 100, 45, 0, 0,
            65, 2, 59, 1, 3, 63, 0, 64, 0, 69, 65, 1, 106, 26)),
            e(1, 3, 0, 0), e(32, 3, 1, 0), e(34, 4, 2, 0), e(33, 4, 0, 0), e(35, 3, 0, 0), e(36, 4, 0, 0), e(65, 3, 1, 0),
            e(40, 4, 100, 0), e(45, 4, 0, 0), e(65, 4, 2, 0), e(59, 5, 3, 0), e(63, 3, 0, 0), e(64, 4, 0, 0),
            e(69, 4, 0, 0), e(65, 4, 1, 0), e(106, 5, 0, 0), e(26, 4, 0, 0), e(11, 3, 0, 0));
        code("select", Mod.single(0, 1, 0, Mod.b(65, 1, 65, 2, 65, 3, 27, 15)), e(65, 0, 1, 0), e(65, 1, 2, 0),
            e(65, 2, 3, 0), e(27, 3, 0, 0), e(15, 1, 0, 1), e(11, 1, 0, 1));
        code("an offset without sign", Mod.single(0, 0, 0, Mod.b(65, 0, 44, 0, 255, 255, 255, 255, 15, 26)),
            e(65, 0, 0, 0), e(44, 1, -1, 0), e(26, 1, 0, 0), e(11, 0, 0, 0));
    }

    private static void branches() {
        code("br_if to a loop", Mod.single(1, 0, 0, Mod.b(65, 4, 3, 127, 65, 5, 32, 0, 13, 0, 11, 26, 26)),
            e(65, 1, 4, 0), e(3, 2, 0, 0), e(65, 2, 5, 0), e(32, 3, 0, 0), e(13, 4, 2, 4), e(26, 3, 0, 0), e(26, 2, 0, 0),
            e(11, 1, 0, 0));
        code("br_if to a block with a result", Mod.single(1, 1, 0,
            Mod.b(65, 4, 2, 127, 65, 5, 32, 0, 13, 0, 32, 0, 13, 1, 11, 106)),
            e(65, 1, 4, 0), e(2, 2, 0, 0), e(65, 2, 5, 0), e(32, 3, 0, 0), e(13, 4, 7, 5), e(32, 3, 0, 0), e(13, 4, 8, 3),
            e(106, 3, 0, 0), e(11, 2, 0, 1));
        code("br to an if, and to a block around it", Mod.single(1, 0, 0,
            Mod.b(2, 64, 65, 9, 32, 0, 4, 64, 12, 0, 5, 12, 1, 11, 26, 11)),
            e(2, 1, 0, 0), e(65, 1, 9, 0), e(32, 2, 0, 0), e(4, 3, 5, 0), e(12, 2, 6, 4), e(12, 2, 7, 2), e(26, 2, 0, 0),
            e(11, 1, 0, 0));
        code("br to the end of the body", Mod.single(1, 1, 2, Mod.b(2, 64, 65, 7, 12, 1, 11, 65, 8)),
            e(2, 3, 0, 0), e(65, 3, 7, 0), e(12, 4, 4, 7), e(65, 3, 8, 0), e(11, 4, 0, 1));
        code("ends behind one another", Mod.single(0, 0, 0, Mod.b(2, 64, 2, 64, 12, 0, 11, 11)),
            e(2, 0, 0, 0), e(2, 0, 0, 0), e(12, 0, 3, 0), e(11, 0, 0, 0));
    }

    private static void ifsAndElses() {
        code("if without else", Mod.single(1, 0, 0, Mod.b(32, 0, 4, 64, 1, 11, 1)),
            e(32, 1, 0, 0), e(4, 2, 3, 0), e(1, 1, 0, 0), e(1, 1, 0, 0), e(11, 1, 0, 0));
        code("if and else", Mod.single(1, 1, 0, Mod.b(32, 0, 4, 127, 65, 1, 5, 65, 2, 11)),
            e(32, 1, 0, 0), e(4, 2, 4, 0), e(65, 1, 1, 0), e(5, 2, 5, 0), e(65, 1, 2, 0), e(11, 2, 0, 1));
        code("an empty else", Mod.single(1, 0, 0, Mod.b(32, 0, 4, 64, 5, 11)),
            e(32, 1, 0, 0), e(4, 2, 3, 0), e(5, 1, 3, 0), e(11, 1, 0, 0));
        code("an end before an else", Mod.single(1, 0, 0, Mod.b(32, 0, 4, 64, 32, 0, 4, 64, 1, 11, 5, 1, 11)),
            e(32, 1, 0, 0), e(4, 2, 6, 0), e(32, 1, 0, 0), e(4, 2, 5, 0), e(1, 1, 0, 0), e(5, 1, 7, 0), e(1, 1, 0, 0),
            e(11, 1, 0, 0));
        code("an else before an else", Mod.single(1, 0, 0, Mod.b(32, 0, 4, 64, 32, 0, 4, 64, 5, 11, 5, 11)),
            e(32, 1, 0, 0), e(4, 2, 6, 0), e(32, 1, 0, 0), e(4, 2, 5, 0), e(5, 1, 5, 0), e(5, 1, 6, 0), e(11, 1, 0, 0));
    }

    private static void whatCannotBeComeTo() {
        code("behind unreachable", Mod.single(0, 1, 0, Mod.b(0, 106, 2, 64, 1, 11, 1)), e(0, 0, 0, 0), e(11, 1, 0, 1));
        code("behind return", Mod.single(0, 0, 1, Mod.b(65, 1, 15, 26)), e(65, 1, 1, 0), e(15, 2, 0, 0), e(11, 1, 0, 0));
        code("up to the block's end", Mod.single(0, 0, 0, Mod.b(2, 64, 12, 0, 1, 3, 64, 12, 0, 11, 1, 11, 1)),
            e(2, 0, 0, 0), e(12, 0, 2, 0), e(1, 0, 0, 0), e(11, 0, 0, 0));
        code("behind a block that leads away", Mod.single(0, 1, 0, Mod.b(2, 127, 0, 11)),
            e(2, 0, 0, 0), e(0, 0, 0, 0), e(11, 1, 0, 1));
        code("operands behind such a block", Mod.single(0, 0, 0, Mod.b(2, 127, 0, 11, 65, 1, 106, 26)),
            e(2, 0, 0, 0), e(0, 0, 0, 0), e(65, 1, 1, 0), e(106, 2, 0, 0), e(26, 1, 0, 0), e(11, 0, 0, 0));
        code("else behind one of the four", Mod.single(1, 1, 0, Mod.b(32, 0, 4, 127, 0, 1, 5, 65, 2, 11)),
            e(32, 1, 0, 0), e(4, 2, 3, 0), e(0, 1, 0, 0), e(65, 1, 2, 0), e(11, 2, 0, 1));
        code("else that leads away", Mod.single(1, 1, 0, Mod.b(32, 0, 4, 127, 65, 3, 5, 0, 1, 11)),
            e(32, 1, 0, 0), e(4, 2, 4, 0), e(65, 1, 3, 0), e(5, 2, 5, 0), e(0, 1, 0, 0), e(11, 2, 0, 1));
        code("if and else that cannot be come to", Mod.single(0, 0, 0, Mod.b(0, 4, 64, 1, 5, 1, 11, 1)),
            e(0, 0, 0, 0), e(11, 0, 0, 0));
        code("else behind a block that cannot be come to", Mod.single(1, 0, 0,
            Mod.b(32, 0, 4, 64, 15, 2, 64, 11, 5, 1, 11)),
            e(32, 1, 0, 0), e(4, 2, 3, 0), e(15, 1, 0, 0), e(1, 1, 0, 0), e(11, 1, 0, 0));
        code("else behind a block that can be come to", Mod.single(1, 0, 0,
            Mod.b(32, 0, 4, 64, 2, 64, 15, 11, 5, 1, 11)),
            e(32, 1, 0, 0), e(4, 2, 5, 0), e(2, 1, 0, 0), e(15, 1, 0, 0), e(5, 1, 6, 0), e(1, 1, 0, 0), e(11, 1, 0, 0));
    }

    private static void tables() {
        code("a table", Mod.single(1, 1, 0, Mod.b(65, 3, 2, 127, 65, 7, 32, 0, 14, 2, 0, 1, 0, 1, 11, 106)),
            e(65, 1, 3, 0), e(2, 2, 0, 0), e(65, 2, 7, 0), e(32, 3, 0, 0), e(14, 4, 2, 0), e(12, 3, 8, 5), e(12, 3, 9, 3),
            e(12, 3, 8, 5), e(106, 3, 0, 0), e(11, 2, 0, 1));
        code("a table of the last alone, and a loop", Mod.single(0, 0, 0, Mod.b(3, 64, 65, 0, 14, 0, 0, 11)),
            e(3, 0, 0, 0), e(65, 0, 0, 0), e(14, 1, 0, 0), e(12, 0, 1, 0), e(11, 0, 0, 0));
        code("a table that cannot be come to", Mod.single(0, 0, 0, Mod.b(0, 14, 1, 0, 0)), e(0, 0, 0, 0), e(11, 0, 0, 0));
    }

    private static void calls() {
        int[] module = Mod.module(Mod.types(Mod.type(2, 1), Mod.type(0, 0)), Mod.functions(1, 0, 1),
            Mod.code(Mod.body(1, Mod.b(65, 1, 65, 2, 16, 1, 26, 16, 2)), Mod.body(0, Mod.b(32, 1, 15)),
                Mod.body(0, Mod.b(16, 0, 3, 64, 12, 0, 11))));
        code("calls", module, e(65, 1, 1, 0), e(65, 2, 2, 0), e(16, 3, 6, 2), e(26, 2, 0, 0), e(16, 1, 9, 0), e(11, 1, 0, 0),
            e(32, 2, 1, 0), e(15, 3, 0, 1), e(11, 3, 0, 1),
            e(16, 0, 0, 0), e(3, 0, 0, 0), e(12, 0, 11, 0), e(11, 0, 0, 0));
    }

    private static void whichWords() {
        WasmMachine machine = Check.fed(Mod.single(0, 0, 0));
        Check.due("compile before load", machine.compile(), 1);
        Check.due("load", machine.load(), 0);
        Check.due("rcodeLen before compile", machine.rcodeLen(), 0);
        Check.due("rcode before compile", machine.rcode(0), -1);
        Check.due("compile", machine.compile(), 0);
        Check.due("rcodeLen", machine.rcodeLen(), 4);
        Check.due("rcode(0)", machine.rcode(0), 11);
        Check.due("rcode(-1)", machine.rcode(-1), -1);
        Check.due("rcode(4)", machine.rcode(4), -1);
        Check.due("rcode(least)", machine.rcode(Integer.MIN_VALUE), -1);
        Check.due("rcode(most)", machine.rcode(Integer.MAX_VALUE), -1);
    }
}
