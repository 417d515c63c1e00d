/** Promises 7 and 9: memory, its data, its accesses and its growing, by both engines (TrapsTest has those that trap). */
public final class MemoryTest {
    private static final int MIN = Integer.MIN_VALUE;
    private static final int MAX = Integer.MAX_VALUE;
    private static final int NO_MOST = -77;

    public static void main(String[] args) {
        pagesHaveSixtyFourBytes();
        dataAsTheySay();
        peeksOfWhatThereIsNot();
        peeksWhenNothingIsLoaded();
        bytes();
        loads();
        stores();
        growAnswersMinusOne();
        pagesThatCame();
        memoryGoesOn();
        newModuleNewMemory();
        Check.finish();
    }

    private static void pagesHaveSixtyFourBytes() {
        Check.says("A page of memory has 64 bytes here, and there are at most 4.");
        for (int pages = 0; pages <= 4; pages++) {
            WasmMachine machine = Check.ready(pages + " pages", Mod.module(Mod.memory(pages)));
            for (int at = 0; at <= 320; at++) {
                Check.due(pages + " pages: peekMem(" + at + ")", machine.peekMem(at), at < 64 * pages ? 0 : -1);
            }
        }
        Check.loads("five pages", 2, Mod.module(Mod.memory(5)));
        for (int engine = 0; engine < 2; engine++) {
            grow("a fifth page", Check.ready("a fifth page", growing(Mod.memory(4, 9))), engine, 1, -1, 4);
        }
    }

    private static void dataAsTheySay() {
        Check.says("A module that was loaded has its memory, data and globals as they say.");
        WasmMachine machine = Check.ready("data", Mod.module(Mod.memory(1),
            Mod.data(Mod.dataAt(0, 1, 2, 3), Mod.dataAt(1, 200), Mod.dataAt(60, 7, 8, 9, 255), Mod.dataAt(64))));
        int[] due = new int[64];
        System.arraycopy(Mod.b(1, 200, 3), 0, due, 0, 3);
        System.arraycopy(Mod.b(7, 8, 9, 255), 0, due, 60, 4);
        for (int at = 0; at < 64; at++) {
            Check.due("peekMem(" + at + ")", machine.peekMem(at), due[at]);
        }
        machine = Check.ready("the later data stay", Mod.module(Mod.memory(4),
            Mod.data(Mod.dataAt(252, 1, 1, 1, 1), Mod.dataAt(253, 2, 2, 2), Mod.dataAt(254, 3, 3), Mod.dataAt(255, 4))));
        for (int i = 0; i < 4; i++) {
            Check.due("the later data stay", machine.peekMem(252 + i), i + 1);
        }
        machine = Check.ready("216 data", Mod.module(Mod.memory(4), Mod.data(Mod.dataAt(39, Mod.repeat(216, 255)))));
        Check.due("before 216 data", machine.peekMem(38), 0);
        Check.due("the first of 216 data", machine.peekMem(39), 255);
        Check.due("the last of 216 data", machine.peekMem(254), 255);
        Check.due("behind 216 data", machine.peekMem(255), 0);
    }

    private static void peeksOfWhatThereIsNot() {
        Check.says("-1 if there is none such");
        WasmMachine machine = Check.ready("a page", Mod.module(Mod.memory(1), Mod.data(Mod.dataAt(0, 5), Mod.dataAt(63, 6))));
        int[] places = {0, 63, 64, 65, 127, 128, 255, 256, 1 << 16, MAX, MIN, MIN + 1, -1, -64, -256};
        for (int at : places) {
            Check.due("peekMem(" + at + ")", machine.peekMem(at), at == 0 ? 5 : at == 63 ? 6 : -1);
        }
        int[][] none = {Mod.module(), Mod.module(Mod.vector(5)), Mod.module(Mod.memory(0)), Mod.module(Mod.memory(0, 4))};
        for (int[] module : none) {
            WasmMachine empty = Check.ready("no memory", module);
            for (int at : places) {
                Check.due("no memory: peekMem(" + at + ")", empty.peekMem(at), -1);
            }
        }
    }

    private static void peeksWhenNothingIsLoaded() {
        Check.says("or nothing is loaded");
        WasmMachine machine = Check.fed(Mod.module(Mod.memory(1), Mod.data(Mod.dataAt(0, 5))));
        Check.due("before load", machine.peekMem(0), -1);
        machine.load();
        Check.due("behind load", machine.peekMem(0), 5);
        machine.reset();
        Check.due("behind reset", machine.peekMem(0), -1);
        Check.feed(machine, Mod.module(Mod.memory(1), Mod.data(Mod.dataAt(0, 5), Mod.dataAt(64, 1))));
        Check.due("load of data outside", machine.load(), 4);
        Check.due("behind a load that was refused", machine.peekMem(0), -1);
    }

    private static void bytes() {
        Check.says("A byte of memory (0 .. 255");
        int[] module = Mod.single(1, 0, 0, Mod.b(65, 9, 32, 0, 58, 0, 0));
        for (int number : new int[] {0, 1, 127, 128, 129, 255, 256, 257, -1, -128, -129, -256, MAX, MIN}) {
            for (int engine = 0; engine < 2; engine++) {
                WasmMachine machine = Check.ready("store8", module);
                Check.start("store8", machine, 0, engine, number);
                Check.due("store8", machine.run(3), 1);
                Check.due("a byte of " + number, machine.peekMem(9), number & 255);
            }
        }
    }

    private static int[] loading(int op, int offset) {
        return Mod.module(Mod.types(Mod.type(1, 1)), Mod.functions(0), Mod.memory(1),
            Mod.code(Mod.body(0, Mod.b(32, 0, op, 0), Mod.unsigned(offset))),
            Mod.data(Mod.dataAt(0, 1, 130, 3, 132, 127, 128), Mod.dataAt(60, 4, 3, 2, 255)));
    }

    private static void loads() {
        Check.says("as the specification has it");
        Check.returns("load", loading(40, 0), 0x84038201, 0);
        Check.returns("load not aligned", loading(40, 1), 0x7F840382, 0);
        Check.returns("load8_s", loading(44, 0), -126, 1);
        Check.returns("load8_s", loading(44, 0), 127, 4);
        Check.returns("load8_s", loading(44, 0), -128, 5);
        Check.returns("load8_u", loading(45, 0), 130, 1);
        Check.returns("load8_u", loading(45, 0), 255, 63);
        Check.returns("load16_s", loading(46, 0), (short) 0x8403, 2);
        Check.returns("load16_s", loading(46, 2), 0x7F84, 1);
        Check.returns("load16_u", loading(47, 0), 0x8403, 2);
        Check.returns("load at the end", loading(40, 0), 0xFF020304, 60);
        Check.returns("load at the end by its offset", loading(40, 60), 0xFF020304, 0);
    }

    private static void stores() {
        Check.says("A function runs with arguments, its other locals 0, as the specification has it");
        int[] ops = {54, 59, 58};
        int[] widths = {4, 2, 1};
        int[] bytes = {0x88, 0x77, 0x66, 0xF5};
        for (int i = 0; i < ops.length; i++) {
            for (int engine = 0; engine < 2; engine++) {
                WasmMachine machine = Check.ready("store", Mod.single(2, 0, 0, Mod.b(32, 0, 32, 1, ops[i], 0, 3)));
                Check.start("store", machine, 0, engine, 2, 0xF5667788);
                Check.due("store: run(2)", machine.run(2), 0);
                Check.due("store: not yet", machine.peekMem(5), 0);
                Check.due("store: run(1)", machine.run(1), 1);
                for (int k = 0; k < 4; k++) {
                    Check.due(ops[i] + " byte " + k, machine.peekMem(5 + k), k < widths[i] ? bytes[k] : 0);
                }
                Check.due(ops[i] + " byte before", machine.peekMem(4), 0);
                Check.due(ops[i] + " byte behind", machine.peekMem(9), 0);
            }
        }
    }

    /** Function 0 grows, 1 tells the size, 2 stores a byte. */
    private static int[] growing(int[] memory) {
        return Mod.module(Mod.types(Mod.type(1, 1), Mod.type(0, 1), Mod.type(2, 0)), Mod.functions(0, 1, 2), memory,
            Mod.code(Mod.body(0, Mod.b(32, 0, 64, 0)), Mod.body(0, Mod.b(63, 0)),
                Mod.body(0, Mod.b(32, 0, 32, 1, 58, 0, 0))));
    }

    private static void grow(String what, WasmMachine machine, int engine, int more, int answer, int pages) {
        Check.start(what, machine, 0, engine, more);
        Check.due(what + ": run", machine.run(2), 1);
        Check.due(what + ": grow by " + more, machine.result(), answer);
        Check.start(what, machine, 1, engine);
        Check.due(what + ": size, run", machine.run(1), 1);
        Check.due(what + ": size", machine.result(), pages);
        Check.due(what + ": the last byte is there", machine.peekMem(pages * 64 - 1) >= 0, pages > 0);
        Check.due(what + ": the next byte", machine.peekMem(pages * 64), -1);
    }

    private static void growAnswersMinusOne() {
        Check.says("memory.grow answers -1 if there would be more pages than 4 or the memory's most.");
        for (int most : new int[] {NO_MOST, 0, 1, 2, 3, 4, 5, 65536, MAX, MIN, -1}) {
            boolean great = most == NO_MOST || most < 0 || most > 4;
            int limit = great ? 4 : most;
            for (int first = 0; first <= limit; first++) {
                int[] module = growing(most == NO_MOST ? Mod.memory(first) : Mod.memory(first, most));
                for (int engine = 0; engine < 2; engine++) {
                    String what = first + " of " + Integer.toUnsignedString(most) + ", engine " + engine;
                    WasmMachine machine = Check.ready(what, module);
                    for (int more : new int[] {limit - first + 1, 5, MAX, MIN, -1, -first, 4 - limit + first + 5}) {
                        if (more < 0 || more > limit - first) {
                            grow(what, machine, engine, more, -1, first);
                        }
                    }
                    grow(what, machine, engine, 0, first, first);
                    for (int pages = first; pages < limit; pages++) {
                        grow(what, machine, engine, 1, pages, pages + 1);
                    }
                    grow(what, machine, engine, 1, -1, limit);
                    grow(what, machine, engine, 0, limit, limit);
                    machine = Check.ready(what, module);
                    grow(what, machine, engine, limit - first, first, limit);
                }
            }
        }
    }

    private static void pagesThatCame() {
        Check.says("0 in pages that came by memory.grow, till it is stored)");
        for (int engine = 0; engine < 2; engine++) {
            WasmMachine machine = Check.ready("pages that came", growing(Mod.memory(1)));
            grow("two pages that came", machine, engine, 2, 1, 3);
            for (int at = 64; at < 192; at++) {
                Check.due("a new page: peekMem(" + at + ")", machine.peekMem(at), 0);
            }
            Check.start("store", machine, 2, engine, 191, 300);
            Check.due("store: run", machine.run(3), 1);
            Check.due("what was stored", machine.peekMem(191), 44);
            Check.due("beside it", machine.peekMem(190), 0);
            grow("one more", machine, engine, 1, 3, 4);
            Check.due("what was stored stays", machine.peekMem(191), 44);
            Check.due("the last byte", machine.peekMem(255), 0);
        }
    }

    private static void memoryGoesOn() {
        Check.says("A byte of memory");
        WasmMachine machine = Check.ready("memory goes on", growing(Mod.memory(1)));
        for (int i = 0; i < 8; i++) {
            Check.start("memory goes on", machine, 2, i & 1, i, i + 40);
            Check.due("memory goes on: run", machine.run(3), 1);
        }
        for (int i = 0; i < 8; i++) {
            Check.due("what run " + i + " stored", machine.peekMem(i), i + 40);
        }
    }

    private static void newModuleNewMemory() {
        Check.says("All as at first");
        WasmMachine machine = Check.ready("first", growing(Mod.memory(1)));
        grow("first", machine, 0, 3, 1, 4);
        Check.start("store", machine, 2, 0, 200, 9);
        machine.run(3);
        machine.reset();
        Check.feed(machine, growing(Mod.memory(1)));
        Check.due("load", machine.load(), 0);
        Check.due("one page", machine.peekMem(64), -1);
        grow("again", machine, 0, 3, 1, 4);
        Check.due("0 again", machine.peekMem(200), 0);
    }
}
