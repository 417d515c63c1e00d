/** Promises 1 to 6, 8, 10, 11 and 12: which calls are taken and refused in which state, and that a refused one changes nothing. */
public final class PromisesTest {
    private static final int MIN = Integer.MIN_VALUE;
    private static final int MAX = Integer.MAX_VALUE;

    /** Functions: 0 is a sum of two, 1 runs without end, 2 takes four and gives their digits, 3 traps, 4 gives nothing. */
    private static final int[] MODULE = Mod.module(Mod.types(Mod.type(2, 1), Mod.type(0, 0), Mod.type(4, 1), Mod.type(0, 1)),
        Mod.functions(0, 1, 2, 3, 1), Mod.memory(1, 2), Mod.globals(Mod.global(1, 3)),
        Mod.code(Mod.body(0, Mod.b(32, 0, 32, 1, 106)), Mod.body(0, Mod.b(3, 64, 12, 0, 11)),
            Mod.body(0, Mod.b(32, 0, 65, 10, 108, 32, 1, 106, 65, 10, 108, 32, 2, 106, 65, 10, 108, 32, 3, 106)),
            Mod.body(0, Mod.b(65, 5, 0)), Mod.body(0, Mod.b(1))),
        Mod.data(Mod.dataAt(2, 9)));
    private static final int SUM = 0;
    private static final int ENDLESS = 1;
    private static final int DIGITS = 2;
    private static final int TRAP = 3;
    private static final int NOTHING = 4;

    /** Has some of all that a load fills: types, functions, memory, globals, exports, blocks of all kinds, tables, data. */
    private static final int[][] RICH = {Mod.types(Mod.type(1, 1), Mod.type(0, 0)), Mod.functions(0, 1), Mod.memory(1, 2),
        Mod.globals(Mod.global(1, 3), Mod.global(0, 4)), Mod.exports(Mod.export("f", 0, 0), Mod.export("g", 3, 1)),
        Mod.code(Mod.body(1, Mod.b(2, 64, 3, 64, 32, 0, 4, 64, 32, 0, 14, 3, 2, 0, 2, 2, 5, 65, 8, 33, 1, 11,
            32, 1, 65, 5, 106, 33, 1, 11, 11, 32, 0, 4, 127, 16, 1, 65, 6, 5, 65, 7, 11, 32, 1, 106, 35, 1, 106)), Mod.body(0)),
        Mod.data(Mod.dataAt(2, 9))};

    public static void main(String[] args) {
        aNewObject();
        feedOfAByteMore();
        feedWhenItDoesNotCollect();
        feedOfWhatIsNoByte();
        feedOfMoreThan240();
        loadOfNothing();
        loadTellsWhyNot();
        loadCollectsOn();
        loadAfterEachByte();
        loadAfterLoadsThatWereRefused();
        loadWithoutWhatWasThereBefore();
        loadWithoutTheMemoryThatWasThereBefore();
        loadWhenItDoesNotCollect();
        compileWhenNothingIsLoaded();
        compileWhileSomethingRuns();
        compileIfItIsThere();
        argWhenNothingIsLoaded();
        argWhileSomethingRuns();
        argOfMoreThanFour();
        startTakesArguments();
        startKeepsArgumentsElse();
        startWhenNothingIsLoadedOrSomethingRuns();
        startOfNoFunction();
        startWithMoreOrFewerArguments();
        startOfNoEngine();
        startTellsTheFirst();
        runWhenNothingRuns();
        resultOfTheLatest();
        resultIsNothing();
        resultStays();
        lengthOfNoCode();
        wordsThatAreNone();
        resetInAnyState();
        resetAndAnotherModule();
        Check.finish();
    }

    private static WasmMachine loaded() {
        WasmMachine machine = Check.fed(MODULE);
        Check.due("load", machine.load(), 0);
        return machine;
    }

    private static WasmMachine running(int engine) {
        WasmMachine machine = loaded();
        Check.due("compile", machine.compile(), 0);
        Check.start("without end", machine, ENDLESS, engine);
        return machine;
    }

    private static int finish(WasmMachine machine, int function, int engine, int... arguments) {
        Check.start("function " + function, machine, function, engine, arguments);
        return machine.run(1000);
    }

    /** Behind this at least one byte is fed. */
    private static void isNew(String what, WasmMachine machine) {
        Check.due(what + ": compile", machine.compile(), 1);
        Check.due(what + ": arg", machine.arg(1), false);
        Check.due(what + ": start", machine.start(0, 0), 1);
        Check.due(what + ": run", machine.run(10), -1);
        Check.due(what + ": run(0)", machine.run(0), -1);
        Check.due(what + ": run(-1)", machine.run(-1), -1);
        Check.due(what + ": result", machine.result(), 0);
        Check.due(what + ": peekMem", machine.peekMem(0), -1);
        Check.due(what + ": rcodeLen", machine.rcodeLen(), 0);
        Check.due(what + ": rcode", machine.rcode(0), -1);
        Check.due(what + ": load", machine.load(), 1);
        Check.due(what + ": feed", machine.feed(0), true);
    }

    private static void aNewObject() {
        Check.says("Nothing fed: it COLLECTS.");
        isNew("new", new WasmMachine());
        WasmMachine machine = new WasmMachine();
        Check.due("feed of a new object", machine.feed(255), true);
    }

    private static void feedOfAByteMore() {
        Check.says("A byte more of the module");
        WasmMachine machine = new WasmMachine();
        for (int next = 0; next < 240; next++) {
            Check.due("feed(" + next + ")", machine.feed(next), true);
        }
        machine = new WasmMachine();
        for (int next = 240; next < 256; next++) {
            Check.due("feed(" + next + ")", machine.feed(next), true);
        }
        Check.due("what was fed is loaded", finish(loaded(), SUM, 0, 4, 5), 1);
    }

    private static void feedWhenItDoesNotCollect() {
        Check.says("false, refused, if it does not collect");
        WasmMachine machine = loaded();
        Check.due("loaded", machine.feed(0), false);
        machine.compile();
        Check.due("compiled", machine.feed(0), false);
        Check.start("nothing", machine, NOTHING, 1);
        Check.due("started", machine.feed(0), false);
        Check.due("run(0)", machine.run(0), 0);
        Check.due("running", machine.feed(0), false);
        Check.due("it goes on", machine.run(1), 1);
        Check.due("done", machine.feed(0), false);
        Check.due("trap", finish(machine, TRAP, 0), 2);
        Check.due("trapped", machine.feed(0), false);
        machine.reset();
        Check.due("reset", machine.feed(0), true);
    }

    private static void feedOfWhatIsNoByte() {
        Check.says("the byte is not 0 .. 255");
        WasmMachine machine = new WasmMachine();
        int[] wrong = {-1, 256, MIN, MAX, 511, -255, -256, 65536, 256 + 97, -97};
        for (int i = 0; i < 8; i++) {
            for (int number : wrong) {
                Check.due("feed(" + number + ")", machine.feed(number), false);
            }
            Check.due("a byte between", machine.feed(Mod.HEADER[i]), true);
        }
        Check.due("what was refused is not there", machine.load(), 0);
        Check.due("when it does not collect either", machine.feed(-1), false);
    }

    private static void feedOfMoreThan240() {
        Check.says("or there are 240");
        int[] whole = Mod.module(Mod.memory(4), Mod.data(Mod.dataAt(0, Mod.repeat(217, 7))));
        Check.due("a module of 240 bytes", whole.length, 240);
        WasmMachine machine = new WasmMachine();
        for (int i = 0; i < 240; i++) {
            Check.due("feed " + i, machine.feed(whole[i]), true);
        }
        for (int next : new int[] {0, 255, -1, 256}) {
            Check.due("feed of a byte more", machine.feed(next), false);
        }
        Check.due("load of 240", machine.load(), 0);
        Check.due("the last byte", machine.peekMem(216), 7);
        Check.due("behind the last byte", machine.peekMem(217), 0);
        machine = new WasmMachine();
        for (int i = 0; i < 240; i++) {
            machine.feed(0);
        }
        Check.due("load of 240 that are no module", machine.load(), 1);
        Check.due("feed of a byte more behind load", machine.feed(0), false);
        machine.reset();
        Check.due("feed behind reset", machine.feed(0), true);
        machine = new WasmMachine();
        for (int i = 0; i < 239; i++) {
            machine.feed(whole[i]);
        }
        Check.due("load of 239", machine.load(), 1);
        Check.due("the last byte", machine.feed(whole[239]), true);
        Check.due("there are 240", machine.feed(0), false);
        Check.due("load of all", machine.load(), 0);
    }

    private static void loadOfNothing() {
        Check.says("nothing fed is 1");
        WasmMachine machine = new WasmMachine();
        Check.due("load", machine.load(), 1);
        Check.due("load again", machine.load(), 1);
        machine.feed(300);
        Check.due("load behind what was refused", machine.load(), 1);
        machine.feed(0);
        machine.reset();
        Check.due("load behind reset", machine.load(), 1);
    }

    private static void loadTellsWhyNot() {
        Check.says("0, or why not (1 .. 4");
        Check.loads("a module", 0, Mod.module());
        Check.loads("MALFORMED", 1, Mod.module(Mod.b(12)));
        Check.loads("UNSUPPORTED", 2, Mod.module(Mod.b(2)));
        Check.loads("INVALID", 3, Mod.module(Mod.memory(2, 1)));
        Check.loads("data outside", 4, Mod.module(Mod.memory(0), Mod.data(Mod.dataAt(0, 1))));
    }

    private static void loadCollectsOn() {
        Check.says("then it collects on, behind what was fed");
        int[][] wrong = {Mod.b(), Mod.b(0, 97), Mod.module(Mod.b(1, 4, 1)), Mod.module(Mod.b(2)), Mod.module(Mod.memory(2, 1)),
            Mod.module(Mod.memory(1), Mod.data(Mod.dataAt(64, 1)))};
        int[] first = {1, 1, 1, 2, 3, 4};
        int[] more = {0, 115, 96, 0, 0, 0};
        int[] second = {1, 1, 1, 2, 1, 1};
        for (int i = 0; i < wrong.length; i++) {
            WasmMachine machine = Check.fed(wrong[i]);
            Check.due("load of " + i, machine.load(), first[i]);
            Check.due("load of " + i + " again", machine.load(), first[i]);
            Check.due("nothing is loaded: compile", machine.compile(), 1);
            Check.due("nothing is loaded: arg", machine.arg(1), false);
            Check.due("nothing is loaded: start", machine.start(0, 0), 1);
            Check.due("nothing is loaded: run", machine.run(1), -1);
            Check.due("nothing is loaded: peekMem", machine.peekMem(0), -1);
            Check.due("nothing is loaded: rcodeLen", machine.rcodeLen(), 0);
            Check.due("feed behind load of " + i, machine.feed(more[i]), true);
            Check.due("load of " + i + " and more", machine.load(), second[i]);
        }
        WasmMachine machine = Check.fed(Mod.module(Mod.types(Mod.type(0, 0)), Mod.functions(0)));
        Check.due("load without code", machine.load(), 1);
        Check.feed(machine, Mod.code(Mod.body(0)));
        Check.due("load with code", machine.load(), 0);
        Check.due("one function", machine.start(1, 0), 2);
        Check.due("its function", machine.start(0, 0), 0);
    }

    /** It answers as a new object does that is loaded with the same at once. */
    private static void isLoadedWithRich(String what, WasmMachine machine) {
        Check.due(what + ": load", machine.load(), 0);
        Check.due(what + ": no function more", machine.start(2, 0), 2);
        Check.due(what + ": its data", machine.peekMem(2), 9);
        Check.due(what + ": its page", machine.peekMem(64), -1);
        for (int engine = 0; engine < 2; engine++) {
            machine.compile();
            Check.due(what + ": with 0", finish(machine, 0, engine, 0), 1);
            Check.due(what + ": result", machine.result(), 24);
            Check.due(what + ": with 3", finish(machine, 0, engine, 3), 1);
            Check.due(what + ": result", machine.result(), 10);
            Check.due(what + ": with 1", finish(machine, 0, engine, 1), 1);
            Check.due(what + ": result", machine.result(), 15);
        }
        Check.due(what + ": rcodeLen", machine.rcodeLen(), 4 * 28);
    }

    private static void loadAfterEachByte() {
        Check.says("1 .. 4; then it collects on, behind what was fed");
        int[] module = Mod.module(RICH);
        int code = module.length - RICH[6].length;
        WasmMachine machine = new WasmMachine();
        for (int fed = 1; fed <= module.length; fed++) {
            machine.feed(module[fed - 1]);
            // At these places a module is whole.
            if (fed != 8 && fed != 8 + RICH[0].length && fed != code && fed < module.length) {
                Check.due("load of " + fed, machine.load(), 1);
            }
        }
        isLoadedWithRich("after each byte", machine);
    }

    private static void loadAfterLoadsThatWereRefused() {
        Check.says("why not (1 .. 4; then it collects on");
        int[] blocks = Mod.repeat(10, 2, 64);
        int[][] refused = {
            Mod.module(Mod.cat(java.util.Arrays.copyOf(RICH, 6)), Mod.data(Mod.dataAt(64, 1))),
            Mod.module(Mod.types(Mod.type(0, 0)), Mod.functions(0), Mod.code(Mod.body(0, blocks, Mod.b(26), Mod.repeat(10, 11)))),
            Mod.module(Mod.types(Mod.type(0, 0)), Mod.functions(0), Mod.code(Mod.rawBody(Mod.b(0), blocks, Mod.b(2, 64)))),
            Mod.module(Mod.types(Mod.type(0, 0)), Mod.functions(0), Mod.code(Mod.rawBody(Mod.b(0), blocks, Mod.b(5)))),
            Mod.module(Mod.types(Mod.type(4, 2)), Mod.memory(4, 1), Mod.globals(Mod.global(0, 9), Mod.global(0, 9), Mod.global(0, 9)))};
        int[] why = {4, 3, 2, 1, 3};
        for (int i = 0; i < refused.length; i++) {
            WasmMachine machine = Check.fed(refused[i]);
            for (int n = 0; n < 60; n++) {
                Check.due("load of " + i, machine.load(), why[i]);
            }
            machine.reset();
            Check.feed(machine, Mod.module(RICH));
            isLoadedWithRich("after " + i, machine);
        }
    }

    private static void loadWithoutWhatWasThereBefore() {
        Check.says("All as at first");
        int[] before = Mod.cat(Mod.types(Mod.type(0, 0)), Mod.functions(0));
        int[][] lacking = {
            Mod.module(before, Mod.code(Mod.body(0, Mod.b(63, 0, 26)))), Mod.module(Mod.exports(Mod.export("m", 2, 0))),
            Mod.module(Mod.data(Mod.dataAt(0))), Mod.module(before, Mod.code(Mod.body(0, Mod.b(35, 0, 26)))),
            Mod.module(Mod.functions(0), Mod.code(Mod.body(0))), Mod.module(Mod.exports(Mod.export("x", 3, 1))),
            Mod.module(before, Mod.code(Mod.body(0, Mod.b(16, 1)))), Mod.module(before, Mod.code(Mod.body(0, Mod.b(32, 0, 26))))};
        int[] wrong = Mod.module(Mod.cat(java.util.Arrays.copyOf(RICH, 6)), Mod.data(Mod.dataAt(64, 1)));
        for (int i = 0; i < lacking.length; i++) {
            WasmMachine machine = Check.fed(Mod.module(RICH));
            Check.due("load", machine.load(), 0);
            machine.reset();
            Check.feed(machine, lacking[i]);
            Check.due("lacking " + i + ", behind a load", machine.load(), 3);
            machine = Check.fed(wrong);
            Check.due("load", machine.load(), 4);
            machine.reset();
            Check.feed(machine, lacking[i]);
            Check.due("lacking " + i + ", behind a load that was refused", machine.load(), 3);
        }
    }

    private static void loadWithoutTheMemoryThatWasThereBefore() {
        Check.says("-1 if there is none such, or nothing is loaded");
        int[][] before = {Mod.module(Mod.memory(4)), Mod.module(Mod.memory(2, 1)), Mod.module(Mod.memory(4), Mod.data(Mod.dataAt(300, 1)))};
        int[] answers = {0, 3, 4};
        int[][] without = {Mod.module(), Mod.module(Mod.vector(5)), Mod.module(Mod.memory(0))};
        for (int i = 0; i < before.length; i++) {
            for (int[] module : without) {
                WasmMachine machine = Check.fed(before[i]);
                Check.due("load with a memory", machine.load(), answers[i]);
                machine.reset();
                Check.feed(machine, module);
                Check.due("load without it, behind " + answers[i], machine.load(), 0);
                Check.due("no byte is left of it", machine.peekMem(0), -1);
            }
        }
    }

    private static void loadWhenItDoesNotCollect() {
        Check.says("5 if it does not collect");
        WasmMachine machine = loaded();
        Check.due("loaded", machine.load(), 5);
        machine.arg(1);
        machine.arg(2);
        Check.due("with arguments", machine.load(), 5);
        Check.due("start", machine.start(SUM, 0), 0);
        Check.due("started", machine.load(), 5);
        Check.due("run(1)", machine.run(1), 0);
        Check.due("running", machine.load(), 5);
        Check.due("it goes on", machine.run(2), 1);
        Check.due("done", machine.load(), 5);
        Check.due("the result stays", machine.result(), 3);
        Check.due("the memory stays", machine.peekMem(2), 9);
        Check.due("trap", finish(machine, TRAP, 0), 2);
        Check.due("trapped", machine.load(), 5);
        machine.compile();
        Check.due("compiled", machine.load(), 5);
        Check.due("the register code stays", machine.rcodeLen() > 0, true);
        machine.reset();
        Check.due("reset", machine.load(), 1);
    }

    private static void compileWhenNothingIsLoaded() {
        Check.says("1 if nothing is loaded");
        WasmMachine machine = new WasmMachine();
        Check.due("new", machine.compile(), 1);
        Check.feed(machine, MODULE);
        Check.due("fed", machine.compile(), 1);
        Check.due("no register code", machine.rcodeLen(), 0);
        machine.load();
        Check.due("no register code by load", machine.rcodeLen(), 0);
        Check.due("loaded", machine.compile(), 0);
        machine.reset();
        Check.due("reset", machine.compile(), 1);
        Check.feed(machine, Mod.module(Mod.b(2)));
        Check.due("load that is refused", machine.load(), 2);
        Check.due("refused", machine.compile(), 1);
        Check.due("a module of nothing", Check.ready("a module of nothing", Mod.module()).compile(), 0);
    }

    private static void compileWhileSomethingRuns() {
        Check.says("0 (also while something runs, which goes on");
        for (int fuel = 0; fuel <= 2; fuel++) {
            WasmMachine machine = loaded();
            Check.start("a sum", machine, SUM, 0, 30, 12);
            Check.due("run(" + fuel + ")", machine.run(fuel), 0);
            Check.due("compile", machine.compile(), 0);
            Check.due("the register code is there", machine.rcodeLen() > 0, true);
            Check.due("it still runs", machine.arg(1), false);
            Check.due("run(0)", machine.run(0), 0);
            Check.due("compile again", machine.compile(), 0);
            Check.due("it goes on", machine.run(3 - fuel), 1);
            Check.due("its result", machine.result(), 42);
        }
        WasmMachine machine = running(1);
        Check.due("compile while register code runs", machine.compile(), 0);
        Check.due("it goes on", machine.run(10), 0);
        Check.due("it goes on", machine.arg(1), false);
    }

    private static void compileIfItIsThere() {
        Check.says("and if it is there)");
        WasmMachine machine = loaded();
        machine.arg(7);
        Check.due("compile", machine.compile(), 0);
        int length = machine.rcodeLen();
        int[] words = new int[60];
        for (int i = 0; i < words.length; i++) {
            words[i] = machine.rcode(i);
        }
        Check.due("compile again", machine.compile(), 0);
        Check.due("its length", machine.rcodeLen(), length);
        for (int i = 0; i < words.length; i++) {
            Check.due("rcode(" + i + ") is as before", machine.rcode(i), words[i]);
        }
        machine.arg(8);
        Check.due("the arguments stay", machine.start(SUM, 1), 0);
        Check.due("run", machine.run(3), 1);
        Check.due("compile a third time", machine.compile(), 0);
        Check.due("the result stays", machine.result(), 15);
    }

    private static void argWhenNothingIsLoaded() {
        Check.says("false, refused, if nothing is loaded");
        WasmMachine machine = new WasmMachine();
        Check.due("new", machine.arg(1), false);
        Check.feed(machine, MODULE);
        Check.due("fed", machine.arg(1), false);
        machine.load();
        Check.due("what was refused is not there", machine.start(NOTHING, 0), 0);
        machine.reset();
        Check.due("reset", machine.arg(1), false);
        machine.feed(0);
        Check.due("load that is refused", machine.load(), 1);
        Check.due("refused", machine.arg(1), false);
    }

    private static void argWhileSomethingRuns() {
        Check.says("something runs");
        for (int engine = 0; engine < 2; engine++) {
            WasmMachine machine = loaded();
            machine.compile();
            Check.start("nothing", machine, NOTHING, engine);
            Check.due("started", machine.arg(1), false);
            Check.due("run(0)", machine.run(0), 0);
            Check.due("running", machine.arg(1), false);
            Check.due("run(1)", machine.run(1), 1);
            Check.due("what was refused is not there", machine.start(NOTHING, engine), 0);
            machine.run(1);
            Check.due("done", machine.arg(40), true);
            Check.due("one more", machine.arg(2), true);
            Check.due("sum", machine.start(SUM, engine), 0);
            Check.due("sum", machine.run(3), 1);
            Check.due("sum", machine.result(), 42);
            Check.due("trap", finish(machine, TRAP, engine), 2);
            Check.due("trapped", machine.arg(1), true);
        }
    }

    private static void argOfMoreThanFour() {
        Check.says("or there are 4");
        for (int engine = 0; engine < 2; engine++) {
            WasmMachine machine = loaded();
            machine.compile();
            for (int i = 1; i <= 4; i++) {
                Check.due("argument " + i, machine.arg(i), true);
            }
            Check.due("a fifth", machine.arg(5), false);
            Check.due("a sixth", machine.arg(6), false);
            Check.due("start", machine.start(DIGITS, engine), 0);
            Check.due("run", machine.run(50), 1);
            Check.due("the first four", machine.result(), 1234);
            for (int number : new int[] {MIN, MAX, 0, -1}) {
                Check.due("any number", machine.arg(number), true);
            }
            Check.due("again a fifth", machine.arg(0), false);
        }
    }

    private static void startTakesArguments() {
        Check.says("0 (the arguments are gone then");
        for (int engine = 0; engine < 2; engine++) {
            WasmMachine machine = loaded();
            machine.compile();
            machine.arg(3);
            machine.arg(4);
            Check.due("start", machine.start(SUM, engine), 0);
            Check.due("run", machine.run(3), 1);
            Check.due("sum", machine.result(), 7);
            Check.due("they are gone", machine.start(SUM, engine), 3);
            Check.due("nothing needs none", machine.start(NOTHING, engine), 0);
            Check.due("run", machine.run(1), 1);
            machine.arg(9);
            machine.arg(1);
            Check.due("others", machine.start(SUM, 1 - engine), 0);
            Check.due("run", machine.run(3), 1);
            Check.due("sum of others", machine.result(), 10);
        }
    }

    private static void startKeepsArgumentsElse() {
        Check.says("else they stay)");
        WasmMachine machine = loaded();
        machine.arg(40);
        Check.due("one too few", machine.start(SUM, 0), 3);
        machine.arg(2);
        Check.due("no such function", machine.start(5, 0), 2);
        Check.due("too many", machine.start(NOTHING, 0), 3);
        Check.due("no such engine", machine.start(SUM, 2), 4);
        Check.due("no register code", machine.start(SUM, 1), 4);
        Check.due("start", machine.start(SUM, 0), 0);
        Check.due("something runs", machine.start(SUM, 0), 1);
        Check.due("run", machine.run(3), 1);
        Check.due("sum", machine.result(), 42);
    }

    private static void startWhenNothingIsLoadedOrSomethingRuns() {
        Check.says("1 if nothing is loaded or something runs");
        WasmMachine machine = new WasmMachine();
        Check.due("new", machine.start(0, 0), 1);
        Check.feed(machine, MODULE);
        Check.due("fed", machine.start(NOTHING, 0), 1);
        machine.load();
        Check.due("loaded", machine.start(ENDLESS, 0), 0);
        Check.due("started", machine.start(NOTHING, 0), 1);
        machine.run(7);
        Check.due("running", machine.start(NOTHING, 0), 1);
        Check.due("it goes on", machine.run(7), 0);
        machine.reset();
        Check.due("reset", machine.start(NOTHING, 0), 1);
        machine = loaded();
        Check.due("run", finish(machine, NOTHING, 0), 1);
        Check.due("done", machine.start(TRAP, 0), 0);
        Check.due("run", machine.run(9), 2);
        Check.due("trapped", machine.start(NOTHING, 0), 0);
    }

    private static void startOfNoFunction() {
        Check.says("2 if there is no such function");
        WasmMachine machine = loaded();
        for (int function : new int[] {5, 6, 8, 255, 256, MAX, MIN, -1, -5}) {
            Check.due("start(" + function + ", 0)", machine.start(function, 0), 2);
        }
        Check.due("the last", machine.start(4, 0), 0);
        machine = Check.ready("no functions", Mod.module());
        Check.due("function 0 of none", machine.start(0, 0), 2);
        Check.due("function 0 of none", machine.start(0, 1), 2);
        int[] eight = Mod.module(Mod.types(Mod.type(0, 0)), Mod.functions(new int[8]), Mod.section(10, Mod.b(8), Mod.repeat(8, Mod.body(0))));
        machine = Check.ready("eight functions", eight);
        Check.due("function 8 of eight", machine.start(8, 0), 2);
        Check.due("function 7 of eight", machine.start(7, 1), 0);
    }

    private static void startWithMoreOrFewerArguments() {
        Check.says("3 if there are more or fewer arguments than it has");
        int[] module = Mod.module(Mod.types(Mod.type(0, 0), Mod.type(1, 0), Mod.type(2, 0), Mod.type(3, 0), Mod.type(4, 0)),
            Mod.functions(0, 1, 2, 3, 4), Mod.section(10, Mod.b(5), Mod.repeat(5, Mod.body(0))));
        for (int given = 0; given <= 4; given++) {
            for (int engine = 0; engine < 2; engine++) {
                WasmMachine machine = Check.ready("arguments", module);
                for (int i = 0; i < given; i++) {
                    machine.arg(i);
                }
                for (int function = 0; function <= 4; function++) {
                    if (function != given) {
                        Check.due(given + " for " + function, machine.start(function, engine), 3);
                    }
                }
                Check.due(given + " for " + given, machine.start(given, engine), 0);
            }
        }
    }

    private static void startOfNoEngine() {
        Check.says("4 if there is no such engine, or no register code");
        WasmMachine machine = loaded();
        for (int engine : new int[] {-1, 2, 3, 256, 257, MAX, MIN}) {
            Check.due("engine " + engine, machine.start(NOTHING, engine), 4);
        }
        Check.due("no register code", machine.start(NOTHING, 1), 4);
        machine.compile();
        for (int engine : new int[] {-1, 2, 3, 256, 257, MAX, MIN}) {
            Check.due("engine " + engine + ", with register code", machine.start(NOTHING, engine), 4);
        }
        Check.due("register code", machine.start(NOTHING, 1), 0);
        machine.run(1);
        Check.due("the operand stack", machine.start(NOTHING, 0), 0);
        machine.reset();
        Check.feed(machine, MODULE);
        machine.load();
        Check.due("no register code behind reset", machine.start(NOTHING, 1), 4);
    }

    private static void startTellsTheFirst() {
        Check.says("the first of these");
        WasmMachine machine = Check.fed(MODULE);
        Check.due("1 before 2, 3 and 4", machine.start(9, 9), 1);
        machine.load();
        Check.due("2 before 3 and 4", machine.start(9, 9), 2);
        machine.arg(1);
        Check.due("2 before 4, with an argument", machine.start(9, 1), 2);
        Check.due("3 before 4", machine.start(SUM, 9), 3);
        Check.due("3 before 4, no register code", machine.start(SUM, 1), 3);
        Check.due("3 before 4, too many", machine.start(NOTHING, 9), 3);
        machine.arg(1);
        Check.due("4", machine.start(SUM, 9), 4);
        Check.due("start", machine.start(SUM, 0), 0);
        Check.due("1 before 2, 3 and 4, while it runs", machine.start(9, 9), 1);
        Check.due("1 before 3", machine.start(SUM, 0), 1);
    }

    private static void runWhenNothingRuns() {
        Check.says("-1 if nothing runs");
        WasmMachine machine = new WasmMachine();
        for (int fuel : new int[] {0, 1, 100000, MAX, -1}) {
            Check.due("new: run(" + fuel + ")", machine.run(fuel), -1);
        }
        Check.feed(machine, MODULE);
        Check.due("fed", machine.run(1), -1);
        machine.load();
        Check.due("loaded", machine.run(1), -1);
        Check.due("a start that is refused", machine.start(SUM, 0), 3);
        Check.due("refused", machine.run(1), -1);
        Check.due("nothing", finish(machine, NOTHING, 0), 1);
        Check.due("done", machine.run(1), -1);
        Check.due("trap", finish(machine, TRAP, 0), 2);
        Check.due("trapped", machine.run(1), -1);
        Check.start("without end", machine, ENDLESS, 0);
        machine.reset();
        Check.due("reset", machine.run(1), -1);
    }

    private static void resultOfTheLatest() {
        Check.says("What the latest function that was done returned");
        WasmMachine machine = loaded();
        machine.compile();
        for (int i = 0; i < 20; i++) {
            int engine = i & 1;
            Check.due("sum", finish(machine, SUM, engine, i, MAX), 1);
            Check.due("sum of " + i, machine.result(), i + MAX);
            Check.due("the same again", machine.result(), i + MAX);
        }
    }

    private static void resultIsNothing() {
        Check.says("0 if it returned nothing, trapped, still runs, or there was none since the beginning or reset()");
        for (int engine = 0; engine < 2; engine++) {
            WasmMachine machine = loaded();
            Check.due("none since the beginning", machine.result(), 0);
            machine.compile();
            Check.due("sum", finish(machine, SUM, engine, 3, 4), 1);
            Check.due("nothing", finish(machine, NOTHING, engine), 1);
            Check.due("it returned nothing", machine.result(), 0);
            Check.due("sum", finish(machine, SUM, engine, 3, 4), 1);
            Check.due("trap", finish(machine, TRAP, engine), 2);
            Check.due("it trapped", machine.result(), 0);
            Check.due("sum", finish(machine, SUM, engine, 3, 4), 1);
            Check.start("sum", machine, SUM, engine, 5, 6);
            Check.due("started", machine.result(), 0);
            Check.due("run(2)", machine.run(2), 0);
            Check.due("it still runs", machine.result(), 0);
            Check.due("run(1)", machine.run(1), 1);
            Check.due("it is done", machine.result(), 11);
            machine.reset();
            Check.due("none since reset", machine.result(), 0);
        }
    }

    private static void resultStays() {
        Check.says("the latest function that was done");
        WasmMachine machine = loaded();
        machine.compile();
        Check.due("sum", finish(machine, SUM, 0, 30, 3), 1);
        machine.arg(1);
        machine.start(9, 0);
        machine.start(NOTHING, 0);
        machine.run(5);
        machine.run(-1);
        machine.load();
        machine.feed(0);
        machine.compile();
        machine.peekMem(0);
        Check.due("it stays", machine.result(), 33);
    }

    private static void lengthOfNoCode() {
        Check.says("How many words the register code has; 0 if there is none");
        WasmMachine machine = new WasmMachine();
        Check.due("new", machine.rcodeLen(), 0);
        Check.feed(machine, Mod.single(0, 1, 0, Mod.b(65, 1)));
        Check.due("fed", machine.rcodeLen(), 0);
        machine.load();
        Check.due("loaded", machine.rcodeLen(), 0);
        machine.compile();
        Check.due("compiled", machine.rcodeLen(), 8);
        machine.reset();
        Check.due("reset", machine.rcodeLen(), 0);
        Check.feed(machine, Mod.single(0, 0, 0));
        machine.load();
        Check.due("another is loaded", machine.rcodeLen(), 0);
        machine.compile();
        Check.due("another is compiled", machine.rcodeLen(), 4);
        Check.due("a code of no function", Check.ready("no function", Mod.module()).rcodeLen(), 0);
    }

    private static void wordsThatAreNone() {
        Check.says("-1 if there is none such");
        WasmMachine machine = Check.fed(Mod.single(0, 1, 0, Mod.b(65, 1)));
        int[] places = {0, 7, 8, 9, 959, 960, MAX, MIN, -1, -8};
        machine.load();
        for (int at : places) {
            Check.due("before compile: rcode(" + at + ")", machine.rcode(at), -1);
        }
        machine.compile();
        for (int at : places) {
            Check.due("rcode(" + at + ")", machine.rcode(at), at == 0 ? 65 : at == 7 ? 1 : -1);
        }
        machine.reset();
        Check.feed(machine, Mod.single(0, 0, 0));
        machine.load();
        Check.due("not those of an earlier one", machine.rcode(0), -1);
        machine.compile();
        Check.due("the last", machine.rcode(3), 0);
        Check.due("behind the last, where an earlier one had some", machine.rcode(4), -1);
    }

    private static void resetInAnyState() {
        Check.says("All as at first");
        for (int state = 0; state < 9; state++) {
            WasmMachine machine = state == 0 ? new WasmMachine() : Check.fed(MODULE);
            if (state == 2) {
                machine.feed(0);
            }
            if (state > 1) {
                machine.load();
            }
            if (state > 3) {
                machine.compile();
            }
            if (state == 5) {
                machine.arg(1);
            }
            if (state > 5) {
                Check.due("sum", finish(machine, SUM, state & 1, 3, 4), 1);
            }
            if (state > 6) {
                Check.start("without end", machine, ENDLESS, state & 1);
                machine.run(state == 7 ? 0 : 9);
            }
            machine.reset();
            isNew("reset of state " + state, machine);
            machine.reset();
            machine.reset();
            isNew("reset twice of state " + state, machine);
        }
    }

    private static void resetAndAnotherModule() {
        Check.says("`void reset()`: All as at first");
        for (int engine = 0; engine < 2; engine++) {
            WasmMachine machine = loaded();
            machine.compile();
            Check.due("sum", finish(machine, SUM, engine, 3, 4), 1);
            machine.arg(6);
            machine.reset();
            Check.feed(machine, Mod.module(Mod.types(Mod.type(0, 1)), Mod.functions(0), Mod.memory(1), Mod.globals(Mod.global(1, 8)),
                Mod.code(Mod.body(1, Mod.b(35, 0, 65, 1, 106, 36, 0, 35, 0, 32, 0, 106)))));
            Check.due("load", machine.load(), 0);
            Check.due("its memory", machine.peekMem(2), 0);
            Check.due("no register code", machine.rcodeLen(), 0);
            Check.due("no function more", machine.start(1, 0), 2);
            Check.due("no register code", machine.start(0, 1), 4);
            machine.compile();
            Check.due("no argument is left", finish(machine, 0, engine), 1);
            Check.due("its global", machine.result(), 9);
            machine.reset();
            Check.due("load of nothing", machine.load(), 1);
        }
    }
}
