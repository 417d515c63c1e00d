/** Promises 7 and 9: memory, its accesses and its growing, by both engines. */
public final class MemoryTest {
    private static final int OUTSIDE = 5;

    public static void main(String[] args) {
        peeks();
        loads();
        stores();
        bounds();
        grows();
        newModuleNewMemory();
        Check.finish();
    }

    private static void peeks() {
        WasmMachine machine = Check.ready("data", Mod.module(Mod.memory(1),
            Mod.data(Mod.dataAt(0, 1, 2, 3), Mod.dataAt(1, 200), Mod.dataAt(60, 7, 8, 9, 255), Mod.dataAt(64))));
        int[] places = {0, 1, 2, 3, 59, 60, 63, 64, -1, 256, Integer.MAX_VALUE, Integer.MIN_VALUE};
        int[] due = {1, 200, 3, 0, 0, 7, 255, -1, -1, -1, -1, -1};
        for (int i = 0; i < places.length; i++) {
            Check.due("peekMem(" + places[i] + ")", machine.peekMem(places[i]), due[i]);
        }
        Check.due("no memory", Check.ready("no memory", Mod.module()).peekMem(0), -1);
        Check.due("no page", Check.ready("no page", Mod.module(Mod.memory(0))).peekMem(0), -1);
        WasmMachine four = Check.ready("four pages", Mod.module(Mod.memory(4)));
        Check.due("the last byte", four.peekMem(255), 0);
        Check.due("behind the last byte", four.peekMem(256), -1);
    }

    private static int[] loading(int op, int offset) {
        return Mod.module(Mod.types(Mod.type(1, 1)), Mod.functions(0), Mod.memory(1),
            Mod.code(Mod.body(0, Mod.b(32, 0, op, 0), Mod.unsigned(offset))),
            Mod.data(Mod.dataAt(0, 1, 130, 3, 132, 127, 128), Mod.dataAt(60, 4, 3, 2, 255)));
    }

    private static void loads() {
        Check.returns("load", loading(40, 0), 0x84038201, 0);
        Check.returns("load not aligned", loading(40, 1), 0x7F840382, 0);
        Check.returns("load8_s", loading(44, 0), -126, 1);
        Check.returns("load8_s", loading(44, 0), 127, 4);
        Check.returns("load8_u", loading(45, 0), 130, 1);
        Check.returns("load16_s", loading(46, 0), (short) 0x8403, 2);
        Check.returns("load16_s", loading(46, 2), 0x7F84, 1);
        Check.returns("load16_u", loading(47, 0), 0x8403, 2);
        Check.returns("load at the end", loading(40, 0), 0xFF020304, 60);
    }

    private static void stores() {
        int[] ops = {54, 59, 58};
        int[] widths = {4, 2, 1};
        int[] bytes = {0x88, 0x77, 0x66, 0xF5};
        for (int i = 0; i < ops.length; i++) {
            for (int engine = 0; engine < 2; engine++) {
                WasmMachine machine = Check.ready("store", Mod.single(2, 0, 0, Mod.b(32, 0, 32, 1, ops[i], 0, 3)));
                Check.start("store", machine, 0, engine, 2, 0xF5667788);
                Check.due("store: run(2)", machine.run(2), 0);
                Check.due("store: not yet", machine.peekMem(5), 0);
                Check.due("store: run(1)", machine.run(1), 1);
                for (int k = 0; k < 4; k++) {
                    Check.due(ops[i] + " byte " + k, machine.peekMem(5 + k), k < widths[i] ? bytes[k] : 0);
                }
                Check.due(ops[i] + " byte before", machine.peekMem(4), 0);
                Check.due(ops[i] + " byte behind", machine.peekMem(9), 0);
            }
        }
    }

    private static void traps(int op, int offset, int address, int outcome) {
        boolean stores = op >= 54;
        int[] module = stores ? Mod.single(1, 0, 0, Mod.b(32, 0), Mod.con(-1), Mod.b(op, 0), Mod.unsigned(offset))
            : Mod.single(1, 0, 0, Mod.b(32, 0, op, 0), Mod.unsigned(offset), Mod.b(26));
        for (int engine = 0; engine < 2; engine++) {
            String what = op + " at " + address + " with " + offset;
            WasmMachine machine = Check.ready(what, module);
            Check.start(what, machine, 0, engine, address);
            Check.due(what, machine.run(10), outcome);
            if (outcome == OUTSIDE) {
                for (int at = 60; at < 64; at++) {
                    Check.due(what + " has done nothing else", machine.peekMem(at), 0);
                }
            }
        }
    }

    private static void bounds() {
        int[] ops = {40, 44, 45, 46, 47, 54, 58, 59};
        int[] widths = {4, 1, 1, 2, 2, 4, 1, 2};
        for (int i = 0; i < ops.length; i++) {
            traps(ops[i], 0, 64 - widths[i], 1);
            traps(ops[i], 0, 65 - widths[i], OUTSIDE);
            traps(ops[i], 64 - widths[i], 0, 1);
            traps(ops[i], 60, 5 - widths[i], OUTSIDE);
            traps(ops[i], 0, -1, OUTSIDE);
            traps(ops[i], 1, -1, OUTSIDE);
            traps(ops[i], -1, 1, OUTSIDE);
            traps(ops[i], -1, -1, OUTSIDE);
            traps(ops[i], Integer.MIN_VALUE, Integer.MIN_VALUE, OUTSIDE);
            traps(ops[i], 0, Integer.MAX_VALUE, OUTSIDE);
        }
        int[] none = Mod.module(Mod.types(Mod.type(0, 1)), Mod.functions(0), Mod.memory(0),
            Mod.code(Mod.body(0, Mod.b(65, 0, 45, 0, 0))));
        Check.ends("no page", none, OUTSIDE, 0);
    }

    private static int[] growing(int[] memory) {
        return Mod.module(Mod.types(Mod.type(1, 1), Mod.type(0, 1), Mod.type(2, 0)), Mod.functions(0, 1, 2), memory,
            Mod.code(Mod.body(0, Mod.b(32, 0, 64, 0)), Mod.body(0, Mod.b(63, 0)),
                Mod.body(0, Mod.b(32, 0, 32, 1, 58, 0, 0))));
    }

    private static void grow(WasmMachine machine, int engine, int more, int answer, int pages) {
        Check.start("grow", machine, 0, engine, more);
        Check.due("grow: run", machine.run(2), 1);
        Check.due("grow(" + more + ")", machine.result(), answer);
        Check.start("size", machine, 1, engine);
        Check.due("size: run", machine.run(1), 1);
        Check.due("size", machine.result(), pages);
        Check.due("the last byte is there", machine.peekMem(pages * 64 - 1) >= 0, pages > 0);
        Check.due("the next byte", machine.peekMem(pages * 64), -1);
    }

    private static void grows() {
        for (int engine = 0; engine < 2; engine++) {
            WasmMachine machine = Check.ready("grow", growing(Mod.memory(1)));
            grow(machine, engine, 0, 1, 1);
            grow(machine, engine, 4, -1, 1);
            grow(machine, engine, -1, -1, 1);
            grow(machine, engine, Integer.MAX_VALUE, -1, 1);
            grow(machine, engine, Integer.MIN_VALUE, -1, 1);
            grow(machine, engine, 2, 1, 3);
            for (int at = 64; at < 192; at++) {
                Check.due("a new page is 0", machine.peekMem(at), 0);
            }
            Check.start("store", machine, 2, engine, 191, 300);
            Check.due("store: run", machine.run(3), 1);
            Check.due("what was stored", machine.peekMem(191), 44);
            grow(machine, engine, 1, 3, 4);
            grow(machine, engine, 1, -1, 4);
            grow(machine, engine, 0, 4, 4);
            machine = Check.ready("grow to 2", growing(Mod.memory(0, 2)));
            grow(machine, engine, 3, -1, 0);
            grow(machine, engine, 1, 0, 1);
            grow(machine, engine, 1, 1, 2);
            grow(machine, engine, 1, -1, 2);
            machine = Check.ready("grow to any", growing(Mod.memory(3, -1)));
            grow(machine, engine, 2, -1, 3);
            grow(machine, engine, 1, 3, 4);
        }
    }

    private static void newModuleNewMemory() {
        WasmMachine machine = Check.ready("first", growing(Mod.memory(1)));
        grow(machine, 0, 3, 1, 4);
        Check.start("store", machine, 2, 0, 200, 9);
        machine.run(3);
        machine.reset();
        for (int next : growing(Mod.memory(1))) {
            machine.feed(next);
        }
        Check.due("load", machine.load(), 0);
        Check.due("one page", machine.peekMem(64), -1);
        grow(machine, 0, 3, 1, 4);
        Check.due("0 again", machine.peekMem(200), 0);
    }
}
