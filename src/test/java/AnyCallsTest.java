import java.util.Random;

/** All promises: no calls in any order, with any arguments and on any bytes, ever throw or answer out of their range. */
public final class AnyCallsTest {
    private static final int[] NUMBERS = {0, 1, 2, 3, 4, 5, 63, 64, 239, 240, 255, 256, -1, Integer.MIN_VALUE, Integer.MAX_VALUE};
    private static final int[] BASE = Mod.module(Mod.types(Mod.type(1, 1), Mod.type(0, 0)), Mod.functions(0, 1),
        Mod.memory(1, 3), Mod.globals(Mod.global(1, 4)), Mod.exports(Mod.export("f", 0, 0)),
        Mod.code(Mod.body(1, Mod.b(2, 64, 3, 64, 32, 0, 4, 64, 16, 1, 5, 65, 9, 15, 11, 32, 0, 65, 1, 107, 34, 0, 13, 0, 32, 1,
            14, 2, 0, 1, 1, 11, 11, 65, 0, 40, 0, 4, 35, 0, 109)), Mod.body(0, Mod.b(65, 1, 64, 0, 36, 0, 65, 3, 65, 2, 58, 0, 1))),
        Mod.data(Mod.dataAt(4, 2, 0, 0, 0)));

    public static void main(String[] args) {
        Check.loads("the module that is changed", 0, BASE);
        int loaded = 0;
        for (int seed = 0; seed < 20000; seed++) {
            Random chance = new Random(seed);
            WasmMachine machine = new WasmMachine();
            feedChanged(machine, chance, seed);
            int code = machine.load();
            Check.due("load " + seed + " is 0 .. 4", code >= 0 && code <= 4, true);
            loaded += code == 0 ? 1 : 0;
            for (int i = 0; i < 60; i++) {
                callAny(machine, chance, seed);
            }
        }
        Check.due("some were loaded", loaded > 1000, true);
        Check.finish();
    }

    private static void feedChanged(WasmMachine machine, Random chance, int seed) {
        int[] bytes = BASE.clone();
        for (int n = seed % 4; n > 0; n--) {
            bytes[8 + chance.nextInt(bytes.length - 8)] = chance.nextInt(chance.nextBoolean() ? 256 : 20);
        }
        int length = chance.nextInt(10) == 0 ? chance.nextInt(bytes.length) : bytes.length;
        for (int i = 0; i < length; i++) {
            machine.feed(bytes[i]);
        }
    }

    private static void callAny(WasmMachine machine, Random chance, int seed) {
        int number = NUMBERS[chance.nextInt(NUMBERS.length)];
        int small = chance.nextInt(4) - 1;
        switch (chance.nextInt(seed % 5 == 0 ? 13 : 12)) {
            case 0:
                machine.feed(number);
                break;
            case 1:
                in(seed, "load", machine.load(), 0, 5);
                break;
            case 2:
                in(seed, "compile", machine.compile(), 0, 1);
                break;
            case 3:
            case 4:
                machine.arg(number);
                break;
            case 5:
                in(seed, "start", machine.start(number, small), 0, 4);
                break;
            case 6:
                in(seed, "start", machine.start(small, small), 0, 4);
                break;
            case 7:
                in(seed, "run", machine.run(Math.min(number, 3000)), -1, 6);
                break;
            case 8:
                in(seed, "run", machine.run(small), -1, 6);
                break;
            case 9:
                in(seed, "peekMem", machine.peekMem(number), -1, 255);
                break;
            case 10:
                in(seed, "rcodeLen", machine.rcodeLen(), 0, 960);
                break;
            case 11:
                machine.rcode(number);
                machine.result();
                break;
            default:
                machine.reset();
                break;
        }
    }

    private static void in(int seed, String what, int got, int least, int most) {
        if (got < least || got > most) {
            Check.due(what + " of " + seed + " is in its range: " + got, false, true);
        }
    }
}
