/** Promises 1, 2, 3, 4, 5, 6, 8, 10, 11, 12: which calls are taken in which state. */
public final class FaceTest {
    private static final int[] ADD = Mod.module(Mod.types(Mod.type(2, 1), Mod.type(0, 0), Mod.type(4, 0)),
        Mod.functions(0, 1, 2), Mod.memory(1), Mod.globals(Mod.global(1, 3)),
        Mod.code(Mod.body(0, Mod.b(32, 0, 32, 1, 106)), Mod.body(0, Mod.b(3, 64, 12, 0, 11)), Mod.body(0)));

    public static void main(String[] args) {
        aNewObjectCollects();
        feedRefuses();
        loadCollectsOn();
        argumentsAreCounted();
        startAnswersTheFirstReason();
        whatRunsShutsOthersOut();
        resultsAreOfTheLatest();
        resetForgetsAll();
        Check.finish();
    }

    private static void isNew(String what, WasmMachine machine) {
        Check.due(what + ": compile", machine.compile(), 1);
        Check.due(what + ": arg", machine.arg(1), false);
        Check.due(what + ": start", machine.start(0, 0), 1);
        Check.due(what + ": run", machine.run(10), -1);
        Check.due(what + ": run(-1)", machine.run(-1), -1);
        Check.due(what + ": result", machine.result(), 0);
        Check.due(what + ": peekMem", machine.peekMem(0), -1);
        Check.due(what + ": rcodeLen", machine.rcodeLen(), 0);
        Check.due(what + ": rcode", machine.rcode(0), -1);
        Check.due(what + ": load", machine.load(), 1);
        Check.due(what + ": feed", machine.feed(0), true);
    }

    private static void aNewObjectCollects() {
        isNew("new", new WasmMachine());
    }

    private static void feedRefuses() {
        WasmMachine machine = new WasmMachine();
        Check.due("feed(-1)", machine.feed(-1), false);
        Check.due("feed(256)", machine.feed(256), false);
        Check.due("feed(least)", machine.feed(Integer.MIN_VALUE), false);
        Check.due("feed(most)", machine.feed(Integer.MAX_VALUE), false);
        for (int i = 0; i < 240; i++) {
            Check.due("feed " + i, machine.feed(i == 0 ? 255 : 0), true);
        }
        Check.due("feed of 241", machine.feed(0), false);
        Check.due("load of 240", machine.load(), 1);
        Check.due("feed of 241 behind load", machine.feed(0), false);
        machine = Check.fed(ADD);
        Check.due("load", machine.load(), 0);
        Check.due("feed when loaded", machine.feed(0), false);
        int[] whole = Mod.module(Mod.memory(4), Mod.data(Mod.dataAt(0, Mod.repeat(217, 7))));
        Check.due("a module of 240 bytes", whole.length, 240);
        Check.loads("a module of 240 bytes", 0, whole);
    }

    private static void loadCollectsOn() {
        WasmMachine machine = Check.fed(0, 97, 115, 109, 1, 0, 0);
        Check.due("load, a byte too few", machine.load(), 1);
        machine.feed(0);
        for (int next : Mod.types(Mod.type(0, 2))) {
            machine.feed(next);
        }
        Check.due("load, two results", machine.load(), 3);
        Check.due("load, two results, again", machine.load(), 3);
        Check.due("arg when not loaded", machine.arg(1), false);
        Check.due("compile when not loaded", machine.compile(), 1);
        machine.feed(2);
        Check.due("load, imports", machine.load(), 2);
        machine.reset();
        for (int next : Mod.module(Mod.memory(1))) {
            machine.feed(next);
        }
        Check.due("load", machine.load(), 0);
        Check.due("load when loaded", machine.load(), 5);
        Check.due("peekMem behind refused load", machine.peekMem(0), 0);
        int[] parts = Mod.module(Mod.memory(1), Mod.data(Mod.dataAt(64, 1)));
        Check.loads("data outside", 4, parts);
        machine = Check.fed(parts);
        Check.due("data outside", machine.load(), 4);
        Check.due("nothing is loaded behind 4", machine.peekMem(0), -1);
        Check.due("feed behind 4", machine.feed(1), true);
        Check.due("a byte too many behind 4", machine.load(), 1);
    }

    private static void argumentsAreCounted() {
        WasmMachine machine = Check.ready("arguments", ADD);
        for (int i = 0; i < 4; i++) {
            Check.due("arg " + i, machine.arg(-i), true);
        }
        Check.due("a fifth argument", machine.arg(9), false);
        Check.due("four for two", machine.start(0, 0), 3);
        Check.due("four for none", machine.start(1, 0), 3);
        Check.due("four for four", machine.start(2, 1), 0);
        Check.due("run", machine.run(0), 1);
        Check.due("the arguments are gone", machine.start(2, 0), 3);
    }

    private static void startAnswersTheFirstReason() {
        WasmMachine machine = Check.fed(ADD);
        Check.due("not loaded", machine.start(9, 9), 1);
        machine.load();
        Check.due("function -1", machine.start(-1, 9), 2);
        Check.due("function 3", machine.start(3, 9), 2);
        Check.due("function least", machine.start(Integer.MIN_VALUE, 0), 2);
        Check.due("no arguments", machine.start(0, 9), 3);
        machine.arg(40);
        Check.due("one argument", machine.start(0, 9), 3);
        machine.arg(2);
        Check.due("engine 2", machine.start(0, 2), 4);
        Check.due("engine -1", machine.start(0, -1), 4);
        Check.due("no register code", machine.start(0, 1), 4);
        machine.compile();
        Check.due("register code", machine.start(0, 1), 0);
        Check.due("run", machine.run(3), 1);
        Check.due("the arguments stayed", machine.result(), 42);
    }

    private static void whatRunsShutsOthersOut() {
        WasmMachine machine = Check.fed(ADD);
        machine.load();
        Check.start("loop", machine, 1, 0);
        Check.due("arg while it runs", machine.arg(1), false);
        Check.due("start while it runs", machine.start(9, 9), 1);
        Check.due("run(-1) while it runs", machine.run(-1), -1);
        Check.due("run(least) while it runs", machine.run(Integer.MIN_VALUE), -1);
        Check.due("run(most)", machine.run(Integer.MAX_VALUE), 0);
        Check.due("compile while it runs", machine.compile(), 0);
        Check.due("it goes on", machine.run(10), 0);
        Check.due("load while it runs", machine.load(), 5);
        Check.due("feed while it runs", machine.feed(0), false);
        int length = machine.rcodeLen();
        Check.due("compile again", machine.compile(), 0);
        Check.due("rcodeLen again", machine.rcodeLen(), length);
    }

    private static void resultsAreOfTheLatest() {
        int[] module = Mod.module(Mod.types(Mod.type(0, 1), Mod.type(0, 0)), Mod.functions(0, 1, 0),
            Mod.code(Mod.body(0, Mod.con(77)), Mod.body(0, Mod.b(1)), Mod.body(0, Mod.con(5), Mod.b(0))));
        for (int engine = 0; engine < 2; engine++) {
            WasmMachine machine = Check.ready("results", module);
            Check.start("77", machine, 0, engine);
            Check.due("before it is done", machine.result(), 0);
            Check.due("run", machine.run(1), 1);
            Check.due("when it is done", machine.result(), 77);
            Check.due("start that is refused", machine.start(3, engine), 2);
            Check.due("run that is refused", machine.run(1), -1);
            Check.due("the result stays", machine.result(), 77);
            Check.start("nothing", machine, 1, engine);
            Check.due("while it still runs", machine.result(), 0);
            Check.due("run", machine.run(1), 1);
            Check.due("nothing returned", machine.result(), 0);
            Check.start("77 again", machine, 0, engine);
            machine.run(1);
            Check.start("trap", machine, 2, engine);
            Check.due("trap", machine.run(2), 2);
            Check.due("trapped", machine.result(), 0);
        }
    }

    private static void resetForgetsAll() {
        WasmMachine machine = Check.ready("before reset", ADD);
        Check.start("sum", machine, 0, 1, 3, 4);
        machine.run(9);
        Check.due("sum", machine.result(), 7);
        machine.arg(1);
        machine.reset();
        isNew("reset", machine);
        machine.reset();
        for (int next : ADD) {
            machine.feed(next);
        }
        Check.due("load behind reset", machine.load(), 0);
        Check.due("no register code behind reset", machine.rcodeLen(), 0);
        Check.due("no argument is left", machine.start(1, 0), 0);
        machine.run(5);
        machine.reset();
        isNew("reset while it runs", machine);
    }
}
