/** Counts answers, tells the wrong ones, and ends with exit code 1 if there was one. */
final class Check {
    private static int asked = 0;
    private static int wrong = 0;
    private static int sentences = 0;
    private static String words = "";

    private Check() {
    }

    /** The words of the document that the answers from here on are due by: a wrong one is told with them. */
    static void says(String sentence) {
        sentences++;
        words = " [" + sentence + "]";
    }

    static void due(String what, long got, long want) {
        asked++;
        if (got != want) {
            wrong++;
            System.out.println(what + " answered " + got + ", due is " + want + words);
        }
    }

    static void due(String what, boolean got, boolean want) {
        due(what, got ? 1 : 0, want ? 1 : 0);
    }

    static void finish() {
        System.out.println(asked + " answers by " + sentences + " sentences, " + wrong + " not as due");
        if (wrong != 0) {
            System.exit(1);
        }
    }

    static WasmMachine fed(int... bytes) {
        WasmMachine machine = new WasmMachine();
        feed(machine, bytes);
        return machine;
    }

    static void feed(WasmMachine machine, int... bytes) {
        for (int next : bytes) {
            if (!machine.feed(next)) {
                due("feed(" + next + ")", false, true);
            }
        }
    }

    static void loads(String what, int want, int[] module) {
        due("load of " + what, fed(module).load(), want);
    }

    /** A machine with a loaded module and its register code. */
    static WasmMachine ready(String what, int[] module) {
        WasmMachine machine = fed(module);
        due("load of " + what, machine.load(), 0);
        due("compile of " + what, machine.compile(), 0);
        return machine;
    }

    static void start(String what, WasmMachine machine, int function, int engine, int... arguments) {
        for (int argument : arguments) {
            due(what + ": arg(" + argument + ")", machine.arg(argument), true);
        }
        due(what + ": start(" + function + ", " + engine + ")", machine.start(function, engine), 0);
    }

    /** Function 0 of a new module by each engine; how it ends, and what it returns. */
    static void ends(String what, int[] module, int outcome, int result, int... arguments) {
        for (int engine = 0; engine < 2; engine++) {
            WasmMachine machine = ready(what, module);
            start(what, machine, 0, engine, arguments);
            due(what + ", engine " + engine + ": run", machine.run(100000), outcome);
            due(what + ", engine " + engine + ": result", machine.result(), result);
        }
    }

    static void returns(String what, int[] module, int result, int... arguments) {
        ends(what, module, 1, result, arguments);
    }

    /** Function 0 ends by just so many instructions, in one piece and one by one. */
    static void costs(String what, int[] module, int outcome, int fuel, int... arguments) {
        for (int engine = 0; engine < 2; engine++) {
            String name = what + ", engine " + engine;
            WasmMachine machine = ready(name, module);
            if (fuel > 0) {
                start(name, machine, 0, engine, arguments);
                due(name + ": run(" + (fuel - 1) + ")", machine.run(fuel - 1), 0);
                due(name + ": run(0)", machine.run(0), 0);
                due(name + ": run(1) at last", machine.run(1), outcome);
            }
            machine = ready(name, module);
            start(name, machine, 0, engine, arguments);
            due(name + ": run(" + fuel + ")", machine.run(fuel), outcome);
            due(name + ": run behind the end", machine.run(1), -1);
        }
    }
}
