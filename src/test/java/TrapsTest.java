/** Promise 7, RUNNING: what traps, what does not quite, and that what traps has done nothing else; by both engines. */
public final class TrapsTest {
    private static final int MIN = Integer.MIN_VALUE;
    private static final int MAX = Integer.MAX_VALUE;
    private static final int DONE = 1;
    private static final int UNREACHABLE = 2;
    private static final int ZERO = 3;
    private static final int OVERFLOW = 4;
    private static final int OUTSIDE = 5;
    private static final int CALLS = 6;
    private static final int[] ACCESSES = {40, 44, 45, 46, 47, 54, 58, 59};
    private static final int[] WIDTHS = {4, 1, 1, 2, 2, 4, 1, 2};

    public static void main(String[] args) {
        unreachable();
        divisionsByZero();
        overflow();
        accessesNotAllInMemory();
        addressesThatWrapAround();
        accessesWithoutAPage();
        accessesInPagesThatCame();
        callsWhenEightRun();
        callsThatWereLeft();
        storesHaveDoneNothing();
        callsHaveDoneNothing();
        whatWasDoneBeforeStays();
        afterATrap();
        Check.finish();
    }

    private static void unreachable() {
        Check.says("2 unreachable");
        Check.ends("unreachable", Mod.single(0, 1, 0, Mod.b(0)), UNREACHABLE, 0);
        Check.ends("unreachable behind a result", Mod.single(0, 1, 0, Mod.b(65, 7, 0)), UNREACHABLE, 0);
        Check.ends("unreachable in an if", Mod.single(1, 1, 0, Mod.b(32, 0, 4, 64, 0, 11, 65, 9)), UNREACHABLE, 0, 1);
        Check.ends("unreachable that is not come to", Mod.single(1, 1, 0, Mod.b(32, 0, 4, 64, 0, 11, 65, 9)), DONE, 9, 0);
        Check.ends("unreachable in a call", Mod.module(Mod.types(Mod.type(0, 1)), Mod.functions(0, 0),
            Mod.code(Mod.body(0, Mod.b(16, 1)), Mod.body(0, Mod.b(65, 7, 0)))), UNREACHABLE, 0);
    }

    private static void divide(int op, int a, int b, int outcome, int result) {
        Check.ends(op + " of " + a + ", " + b, Mod.single(2, 1, 0, Mod.b(32, 0, 32, 1, op)), outcome, result, a, b);
    }

    private static void divisionsByZero() {
        Check.says("3 a division or remainder by 0");
        for (int op = 109; op <= 112; op++) {
            for (int a : new int[] {5, 0, 1, -1, MIN, MAX}) {
                divide(op, a, 0, ZERO, 0);
                divide(op, a, 1, DONE, op <= 110 ? a : 0);
            }
        }
    }

    private static void overflow() {
        Check.says("4 -2147483648 / -1");
        divide(109, MIN, -1, OVERFLOW, 0);
        divide(110, MIN, -1, DONE, 0);
        divide(111, MIN, -1, DONE, 0);
        divide(112, MIN, -1, DONE, MIN);
        divide(109, MIN + 1, -1, DONE, MAX);
        divide(109, MAX, -1, DONE, -MAX);
        divide(109, MIN, 1, DONE, MIN);
        divide(109, MIN, -2, DONE, 1 << 30);
        divide(109, MIN, MIN, DONE, 1);
        divide(109, -1, MIN, DONE, 0);
        divide(109, -1, -1, DONE, 1);
    }

    /** An access that leaves nothing on the stack. */
    private static int[] access(int op, int offset) {
        return op >= 54 ? Mod.cat(Mod.b(32, 0), Mod.con(-1), Mod.b(op, 0), Mod.unsigned(offset))
            : Mod.cat(Mod.b(32, 0, op, 0), Mod.unsigned(offset), Mod.b(26));
    }

    private static void at(int pages, int op, int offset, int address, int outcome) {
        String what = op + " at " + address + " with " + Integer.toUnsignedString(offset) + " in " + pages;
        int[] module = Mod.module(Mod.types(Mod.type(1, 0)), Mod.functions(0), Mod.memory(pages),
            Mod.code(Mod.body(0, access(op, offset))));
        Check.ends(what, module, outcome, 0, address);
    }

    private static void accessesNotAllInMemory() {
        Check.says("5 an access that is not all in memory");
        for (int pages = 1; pages <= 4; pages++) {
            int end = 64 * pages;
            for (int i = 0; i < ACCESSES.length; i++) {
                int last = end - WIDTHS[i];
                at(pages, ACCESSES[i], 0, 0, DONE);
                for (int beyond = 0; beyond <= 4; beyond++) {
                    int outcome = beyond == 0 ? DONE : OUTSIDE;
                    at(pages, ACCESSES[i], 0, last + beyond, outcome);
                    at(pages, ACCESSES[i], last + beyond, 0, outcome);
                    at(pages, ACCESSES[i], last - 5, 5 + beyond, outcome);
                }
            }
        }
    }

    private static void addressesThatWrapAround() {
        Check.says("an access that is not all in memory");
        int[][] pairs = {{0, -1}, {0, -2}, {0, -4}, {0, MIN}, {0, MAX}, {1, -1}, {4, -4}, {4, -1}, {64, -64}, {-1, 1}, {-1, 0},
            {-4, 4}, {-1, -1}, {MIN, MIN}, {MAX, MAX}, {MAX, 1}, {MIN, 0}, {-64, 64}, {-64, 65}};
        for (int op : ACCESSES) {
            for (int[] pair : pairs) {
                at(1, op, pair[0], pair[1], OUTSIDE);
                at(4, op, pair[0], pair[1], OUTSIDE);
            }
        }
    }

    private static void accessesWithoutAPage() {
        Check.says("5 an access that is not all in memory, 6");
        for (int op : ACCESSES) {
            at(0, op, 0, 0, OUTSIDE);
            at(0, op, 0, -1, OUTSIDE);
        }
    }

    private static void accessesInPagesThatCame() {
        Check.says("TRAPS: 2 unreachable, 3 a division or remainder by 0, 4 -2147483648 / -1, 5 an access that is not all in memory");
        int[] module = Mod.module(Mod.types(Mod.type(1, 0)), Mod.functions(0, 0), Mod.memory(1, 3),
            Mod.code(Mod.body(0, Mod.b(32, 0, 64, 0, 26)), Mod.body(0, Mod.b(32, 0), Mod.con(-1), Mod.b(54, 0, 0))));
        for (int engine = 0; engine < 2; engine++) {
            WasmMachine machine = Check.ready("grow", module);
            for (int pages = 1; pages <= 3; pages++) {
                Check.start("the last place", machine, 1, engine, pages * 64 - 4);
                Check.due("the last place of " + pages, machine.run(9), DONE);
                Check.start("one more", machine, 1, engine, pages * 64 - 3);
                Check.due("behind the last place of " + pages, machine.run(9), OUTSIDE);
                Check.start("grow", machine, 0, engine, 1);
                Check.due("grow", machine.run(9), DONE);
            }
            Check.start("behind the last page", machine, 1, engine, 192);
            Check.due("behind the last page", machine.run(9), OUTSIDE);
        }
    }

    /** Calls itself as often as its argument says; each call counts itself in the global, which the innermost returns. */
    private static int[] down() {
        return Mod.module(Mod.types(Mod.type(1, 1), Mod.type(0, 1)), Mod.functions(0, 1), Mod.globals(Mod.global(1, 0)),
            Mod.code(Mod.body(0, Mod.b(35, 0, 65, 1, 106, 36, 0, 32, 0, 4, 127, 32, 0, 65, 1, 107, 16, 0, 5, 35, 0, 11)),
                Mod.body(0, Mod.b(35, 0))));
    }

    private static void callsWhenEightRun() {
        Check.says("6 a call when eight run already");
        for (int more = 0; more <= 7; more++) {
            Check.ends((more + 1) + " calls", down(), DONE, more + 1, more);
        }
        Check.ends("nine calls", down(), CALLS, 0, 8);
        Check.ends("calls without end", down(), CALLS, 0, -1);
        int[] others = Mod.module(Mod.types(Mod.type(0, 0)), Mod.functions(0, 0),
            Mod.code(Mod.body(0, Mod.b(16, 1)), Mod.body(0, Mod.b(16, 0))));
        Check.costs("calls of one another", others, CALLS, 8);
        int[] inner = Mod.module(Mod.types(Mod.type(1, 0), Mod.type(0, 0)), Mod.functions(0, 1),
            Mod.code(Mod.body(0, Mod.b(32, 0, 4, 64, 32, 0, 65, 1, 107, 16, 0, 5, 16, 1, 11)), Mod.body(0)));
        Check.ends("an eighth call of another", inner, DONE, 0, 6);
        Check.ends("a ninth call of another, that has no instruction", inner, CALLS, 0, 7);
    }

    private static void callsThatWereLeft() {
        Check.says("a call when eight run already");
        int[] module = Mod.module(Mod.types(Mod.type(1, 0), Mod.type(0, 1)), Mod.functions(1, 0), Mod.globals(Mod.global(1, 0)),
            Mod.code(Mod.body(0, Mod.repeat(5, 65, 6, 16, 1), Mod.b(35, 0)),
                Mod.body(0, Mod.b(35, 0, 65, 1, 106, 36, 0, 32, 0, 69, 13, 0, 32, 0, 65, 1, 107, 16, 1))));
        Check.returns("five times eight calls", module, 35);
        int[] many = Mod.module(Mod.types(Mod.type(0, 0)), Mod.functions(0, 0),
            Mod.code(Mod.body(0, Mod.repeat(50, 16, 1)), Mod.body(0)));
        Check.costs("fifty calls behind one another", many, DONE, 50);
    }

    private static void storesHaveDoneNothing() {
        Check.says("What traps has done nothing else.");
        for (int i = 0; i < ACCESSES.length; i++) {
            for (int engine = 0; engine < 2; engine++) {
                String what = ACCESSES[i] + ", engine " + engine;
                WasmMachine machine = Check.ready(what, Mod.module(Mod.types(Mod.type(1, 0)), Mod.functions(0), Mod.memory(1, 4),
                    Mod.code(Mod.body(0, access(ACCESSES[i], 0))), Mod.data(Mod.dataAt(60, 1, 2, 3, 4))));
                for (int address = 65 - WIDTHS[i]; address <= 64; address++) {
                    Check.start(what, machine, 0, engine, address);
                    Check.due(what + " at " + address, machine.run(9), OUTSIDE);
                    for (int k = 0; k < 4; k++) {
                        Check.due(what + ": byte " + (60 + k), machine.peekMem(60 + k), k + 1);
                    }
                    Check.due(what + ": byte 0", machine.peekMem(0), 0);
                    Check.due(what + ": no page came", machine.peekMem(64), -1);
                }
            }
        }
    }

    private static void callsHaveDoneNothing() {
        Check.says("What traps has done nothing else");
        for (int engine = 0; engine < 2; engine++) {
            WasmMachine machine = Check.ready("nine calls", down());
            Check.start("nine calls", machine, 0, engine, 8);
            Check.due("nine calls", machine.run(200), CALLS);
            Check.start("how many were counted", machine, 1, engine);
            Check.due("how many were counted", machine.run(1), DONE);
            Check.due("the ninth has done nothing", machine.result(), 8);
        }
    }

    private static void whatWasDoneBeforeStays() {
        Check.says("What traps has done nothing");
        int[] module = Mod.module(Mod.types(Mod.type(0, 0), Mod.type(0, 1)), Mod.functions(0, 1), Mod.memory(1),
            Mod.globals(Mod.global(1, 5)), Mod.code(
                Mod.body(0, Mod.b(65, 7, 65, 9, 58, 0, 0, 65, 6, 36, 0, 65, 1, 64, 0, 26, 0, 65, 8, 36, 0)), Mod.body(0, Mod.b(35, 0))));
        for (int engine = 0; engine < 2; engine++) {
            WasmMachine machine = Check.ready("unreachable", module);
            Check.start("unreachable", machine, 0, engine);
            Check.due("unreachable", machine.run(50), UNREACHABLE);
            Check.due("the byte that was stored", machine.peekMem(7), 9);
            Check.due("the page that came", machine.peekMem(127), 0);
            Check.start("the global", machine, 1, engine);
            machine.run(1);
            Check.due("the global", machine.result(), 6);
        }
    }

    private static void afterATrap() {
        Check.says("2 .. 6 it trapped; -1 if nothing runs");
        int[] module = Mod.module(Mod.types(Mod.type(1, 1)), Mod.functions(0), Mod.code(Mod.body(1,
            Mod.b(32, 1, 32, 0, 34, 1, 26, 2, 127, 65, 3, 32, 0, 13, 0, 26, 65, 1, 65, 0, 109, 11, 106))));
        for (int engine = 0; engine < 2; engine++) {
            WasmMachine machine = Check.ready("a trap", module);
            for (int i = 0; i < 9; i++) {
                Check.start("a trap", machine, 0, engine, 0);
                Check.due("a trap", machine.run(50), ZERO);
                Check.due("nothing runs", machine.run(50), -1);
                Check.due("it trapped", machine.result(), 0);
                Check.start("no trap", machine, 0, 1 - engine, 9);
                Check.due("no trap", machine.run(50), DONE);
                Check.due("its local was 0", machine.result(), 3);
            }
        }
    }
}
