/** Promise 7, RUNNING: how instructions are counted, by both engines. */
public final class FuelTest {
    private static final int MAX = Integer.MAX_VALUE;
    private static final int UNREACHABLE = 2;
    private static final int ZERO = 3;
    private static final int OVERFLOW = 4;
    private static final int OUTSIDE = 5;
    private static final int CALLS = 6;

    public static void main(String[] args) {
        eachCountsOne();
        elseAndEndCountNothing();
        doneWithWhatComesBefore();
        endsOfCalls();
        atTheBeginning();
        itsLastInstruction();
        loopsCountOnce();
        trapsNeedFuel();
        functionsThatHaveNone();
        atMostSoMany();
        moreThanAHundredThousand();
        fuelBelowNothing();
        Check.finish();
    }

    /** Costs of one instruction, behind operands and before drops that are counted too. */
    private static void one(int op, int takes, int gives, int... bytes) {
        int[] instructions = Mod.cat(Mod.repeat(takes, 65, 1), bytes, Mod.repeat(gives, 26));
        Check.costs("instruction " + op, Mod.single(1, 0, 1, instructions), 1, takes + 1 + gives, 0);
    }

    private static void eachCountsOne() {
        Check.says("fuel is counted in INSTRUCTIONS that are done: each one counts 1");
        one(1, 0, 0, 1);
        one(26, 1, 0, 26);
        one(27, 3, 1, 27);
        one(32, 0, 1, 32, 1);
        one(33, 1, 0, 33, 1);
        one(34, 1, 1, 34, 1);
        one(35, 0, 1, 35, 0);
        one(36, 1, 0, 36, 0);
        one(63, 0, 1, 63, 0);
        one(64, 1, 1, 64, 0);
        one(65, 0, 1, 65, 7);
        one(12, 0, 0, 12, 0);
        one(13, 1, 0, 13, 0);
        one(14, 1, 0, 14, 2, 0, 0, 0);
        one(15, 0, 0, 15);
        for (int op : new int[] {40, 44, 45, 46, 47}) {
            one(op, 1, 1, op, 0, 0);
        }
        for (int op : new int[] {54, 58, 59}) {
            one(op, 2, 0, op, 0, 0);
        }
        for (int op : new int[] {69, 103, 104, 105}) {
            one(op, 1, 1, op);
        }
        for (int op = 70; op <= 120; op++) {
            if (op <= 79 || op >= 106) {
                one(op, 2, 1, op);
            }
        }
    }

    private static void elseAndEndCountNothing() {
        Check.says("but else and end nothing");
        Check.costs("a block", Mod.single(0, 0, 0, Mod.b(2, 64, 11)), 1, 1);
        Check.costs("a loop", Mod.single(0, 0, 0, Mod.b(3, 64, 11)), 1, 1);
        Check.costs("ten blocks", Mod.single(0, 0, 0, Mod.repeat(10, 2, 64), Mod.repeat(10, 11)), 1, 10);
        int[] empty = Mod.single(1, 0, 0, Mod.b(32, 0, 4, 64, 5, 11));
        Check.costs("an empty if that is taken", empty, 1, 2, 1);
        Check.costs("an empty else that is taken", empty, 1, 2, 0);
        Check.costs("an if without else that is taken", Mod.single(1, 0, 0, Mod.b(32, 0, 4, 64, 11)), 1, 2, 1);
        Check.costs("an if without else that is not", Mod.single(1, 0, 0, Mod.b(32, 0, 4, 64, 11)), 1, 2, 0);
        int[] choose = Mod.single(1, 1, 0, Mod.b(32, 0, 4, 127, 1, 1, 65, 1, 5, 65, 2, 11));
        Check.costs("an if of three", choose, 1, 5, 1);
        Check.costs("an else of one", choose, 1, 3, 0);
        Check.costs("else in else, at an end of both", Mod.single(1, 0, 0,
            Mod.b(32, 0, 4, 64, 32, 0, 4, 64, 1, 5, 1, 11, 5, 11)), 1, 5, 1);
        Check.costs("br to an end", Mod.single(0, 0, 0, Mod.b(2, 64, 2, 64, 12, 1, 11, 11)), 1, 3);
    }

    private static void doneWithWhatComesBefore() {
        Check.says("these are done with what comes before them");
        Check.costs("nop, and six ends", Mod.single(0, 0, 0, Mod.b(2, 64, 3, 64, 2, 64, 3, 64, 2, 64, 1, 11, 11, 11, 11, 11)), 1, 6);
        Check.costs("nop, an else and three ends", Mod.single(0, 0, 0, Mod.b(2, 64, 65, 1, 4, 64, 1, 5, 1, 1, 11, 11)), 1, 4);
        Check.costs("br behind an else", Mod.single(0, 0, 0, Mod.b(2, 64, 65, 0, 4, 64, 1, 5, 12, 1, 11, 11)), 1, 4);
        Check.costs("br_if that does not lead away", Mod.single(0, 0, 0, Mod.b(2, 64, 65, 0, 13, 0, 11)), 1, 3);
        Check.costs("br_table before an end", Mod.single(0, 0, 0, Mod.b(2, 64, 65, 1, 14, 2, 0, 0, 1, 11)), 1, 3);
        Check.costs("an if at the end", Mod.single(0, 0, 0, Mod.b(65, 0, 4, 64, 1, 11)), 1, 2);
    }

    /** Each function but the last calls the next one; the last one has no instruction. */
    private static int[] chain(int functions) {
        int[] bodies = new int[0];
        for (int i = 1; i < functions; i++) {
            bodies = Mod.cat(bodies, Mod.body(0, Mod.b(16, i)));
        }
        return Mod.module(Mod.types(Mod.type(0, 0)), Mod.functions(new int[functions]),
            Mod.section(10, Mod.b(functions), bodies, Mod.body(0)));
    }

    private static void endsOfCalls() {
        Check.says("end nothing: these are done with what comes before them");
        for (int functions = 1; functions <= 8; functions++) {
            Check.costs("a chain of " + functions, chain(functions), 1, functions - 1);
        }
        int[] between = Mod.module(Mod.types(Mod.type(0, 1), Mod.type(0, 0)), Mod.functions(0, 1),
            Mod.code(Mod.body(0, Mod.b(16, 1, 65, 7, 16, 1, 15)), Mod.body(0, Mod.b(2, 64, 11))));
        Check.costs("calls, and their blocks", between, 1, 6);
        Check.returns("calls, and their blocks", between, 7);
    }

    private static void atTheBeginning() {
        Check.says("(at the beginning of a function that was started: as soon as run() is called)");
        for (int engine = 0; engine < 2; engine++) {
            WasmMachine machine = Check.ready("nothing", Mod.single(1, 0, 1));
            Check.start("nothing", machine, 0, engine, 5);
            Check.due("it runs when it was started", machine.start(0, engine), 1);
            Check.due("arg when it was started", machine.arg(1), false);
            Check.due("run(-1) is not called", machine.run(-1), -1);
            Check.due("it still runs", machine.arg(1), false);
            Check.due("run(0)", machine.run(0), 1);
            Check.due("it is over", machine.arg(1), true);
            Check.due("run(0) again", machine.run(0), -1);
        }
    }

    private static void itsLastInstruction() {
        Check.says("so a run that has done its last instruction is over");
        Check.costs("a value", Mod.single(0, 1, 0, Mod.b(65, 1)), 1, 1);
        Check.costs("return", Mod.single(0, 1, 0, Mod.b(65, 1, 15)), 1, 2);
        Check.costs("return before others", Mod.single(0, 1, 0, Mod.b(65, 1, 15, 1, 1)), 1, 2);
        Check.costs("br to the body", Mod.single(0, 1, 0, Mod.b(65, 1, 12, 0, 1, 1)), 1, 2);
        Check.costs("br to the body from within", Mod.single(0, 1, 0, Mod.b(2, 64, 65, 1, 12, 1, 11, 65, 2)), 1, 3);
        Check.costs("br_if to the body", Mod.single(0, 0, 0, Mod.b(65, 1, 13, 0, 1)), 1, 2);
        Check.costs("br_table to the body", Mod.single(0, 0, 0, Mod.b(65, 1, 14, 0, 0, 1)), 1, 2);
    }

    private static void loopsCountOnce() {
        Check.says("Who leads to a loop goes to the entry of its first instruction");
        int[] counting = Mod.single(1, 0, 0, Mod.b(3, 64, 32, 0, 65, 1, 107, 34, 0, 13, 0, 11));
        for (int times = 1; times <= 20; times++) {
            Check.costs("a loop, " + times + " times", counting, 1, 1 + 5 * times, times);
        }
    }

    private static void trapsNeedFuel() {
        Check.says("(One that traps needs one of the fuel, too");
        Check.costs("unreachable", Mod.single(0, 0, 0, Mod.b(0)), UNREACHABLE, 1);
        Check.costs("unreachable in a block", Mod.single(0, 0, 0, Mod.b(2, 64, 0, 11)), UNREACHABLE, 2);
        for (int op = 109; op <= 112; op++) {
            Check.costs("a division " + op, Mod.single(0, 1, 0, Mod.b(65, 1, 65, 0, op)), ZERO, 3);
        }
        Check.costs("an overflow", Mod.single(1, 1, 0, Mod.b(32, 0, 65, 127, 109)), OVERFLOW, 3, Integer.MIN_VALUE);
        Check.costs("a load", Mod.single(0, 1, 0, Mod.b(65, 127, 40, 0, 0)), OUTSIDE, 2);
        Check.costs("a store", Mod.single(0, 0, 0, Mod.b(65, 127, 65, 0, 54, 0, 0)), OUTSIDE, 3);
        int[] endless = Mod.module(Mod.types(Mod.type(0, 0)), Mod.functions(0), Mod.code(Mod.body(0, Mod.b(16, 0))));
        Check.costs("a ninth call", endless, CALLS, 8);
    }

    private static void functionsThatHaveNone() {
        Check.says("run(0) is the end of a function that has none.)");
        Check.costs("nothing", Mod.single(0, 0, 0), 1, 0);
        Check.costs("nothing with four arguments and eight locals", Mod.single(4, 0, 8), 1, 0, 1, 2, 3, 4);
        for (int engine = 0; engine < 2; engine++) {
            for (int[] one : new int[][] {{1}, {0}, {2, 64, 11}, {3, 64, 11}, {15}, {12, 0}}) {
                WasmMachine machine = Check.ready("one instruction", Mod.single(0, 0, 0, one));
                Check.start("one instruction", machine, 0, engine);
                for (int i = 0; i < 5; i++) {
                    Check.due("run(0) of " + one[0], machine.run(0), 0);
                }
                Check.due("run(1) of " + one[0], machine.run(1), one[0] == 0 ? UNREACHABLE : 1);
            }
        }
    }

    private static void atMostSoMany() {
        Check.says("Runs on, at most so many instructions");
        int[] module = Mod.single(0, 0, 0, Mod.b(65, 0, 45, 0, 0, 26), Mod.repeat(8, 65, 0, 65, 0, 45, 0, 0, 65, 1, 106, 58, 0, 0));
        for (int engine = 0; engine < 2; engine++) {
            for (int fuel : new int[] {1, 2, 3, 5, 6, 7, 50, 51}) {
                WasmMachine machine = Check.ready("stores", module);
                Check.start("stores", machine, 0, engine);
                int done = 0;
                while (done < 51) {
                    done = Math.min(done + fuel, 51);
                    Check.due("run(" + fuel + ")", machine.run(fuel), done < 51 ? 0 : 1);
                    Check.due("stores by " + done, machine.peekMem(0), done < 3 ? 0 : (done - 3) / 6);
                }
            }
        }
    }

    private static void moreThanAHundredThousand() {
        Check.says("(more than 100000 are 100000)");
        int[] endless = Mod.single(0, 0, 0, Mod.b(3, 64, 12, 0, 11));
        // 1 and 5 for each time: 19999 times are 99996, 20000 are 100001.
        int[] counting = Mod.single(1, 0, 0, Mod.b(3, 64, 32, 0, 65, 1, 107, 34, 0, 13, 0, 11));
        int[] four = Mod.single(1, 0, 0, Mod.b(1, 1, 1, 1, 3, 64, 32, 0, 65, 1, 107, 34, 0, 13, 0, 11));
        for (int engine = 0; engine < 2; engine++) {
            for (int fuel : new int[] {100000, 100001, 100002, 200000, MAX}) {
                WasmMachine machine = Check.ready("counting", counting);
                Check.start("counting", machine, 0, engine, 20000);
                Check.due("100001 by run(" + fuel + ")", machine.run(fuel), 0);
                Check.due("one is left", machine.run(0), 0);
                Check.due("the last", machine.run(1), 1);
                machine = Check.ready("four more", four);
                Check.start("four more", machine, 0, engine, 19999);
                Check.due("100000 by run(" + fuel + ")", machine.run(fuel), 1);
            }
            WasmMachine machine = Check.ready("four more", four);
            Check.start("four more", machine, 0, engine, 19999);
            Check.due("100000 by run(99999)", machine.run(99999), 0);
            Check.due("one is left", machine.run(MAX), 1);
            machine = Check.ready("endless", endless);
            Check.start("endless", machine, 0, engine);
            for (int i = 0; i < 5; i++) {
                Check.due("endless", machine.run(MAX), 0);
            }
        }
    }

    private static void fuelBelowNothing() {
        Check.says("-1 if nothing runs, or fuel is below 0");
        int[] module = Mod.single(0, 1, 0, Mod.b(65, 1, 65, 2, 106));
        for (int engine = 0; engine < 2; engine++) {
            WasmMachine machine = Check.ready("a sum", module);
            Check.due("nothing was started", machine.run(1), -1);
            Check.start("a sum", machine, 0, engine);
            for (int fuel : new int[] {-1, -2, -100000, -100001, Integer.MIN_VALUE}) {
                Check.due("run(" + fuel + ")", machine.run(fuel), -1);
            }
            Check.due("nothing was done", machine.run(2), 0);
            Check.due("run(-1) between", machine.run(-1), -1);
            Check.due("it goes on", machine.run(1), 1);
            Check.due("the sum", machine.result(), 3);
            Check.due("nothing runs", machine.run(1), -1);
            Check.due("nothing runs, with fuel below 0", machine.run(-1), -1);
            Check.due("the sum stays", machine.result(), 3);
        }
    }
}
