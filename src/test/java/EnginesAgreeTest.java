import java.util.ArrayList;
import java.util.List;
import java.util.Random;

/** Promise 7: modules by chance, of which both engines do the same, instruction for instruction. */
public final class EnginesAgreeTest {
    private static final int MODULES = 4000;
    private static final int FUNCTIONS = 3;
    private static final int LOCALS = 3;
    private static final int[] BINARY = {70, 71, 72, 73, 76, 79, 106, 107, 108, 109, 110, 111, 112, 113, 115, 116, 118, 119};
    private static final int[] UNARY = {69, 103, 104, 105};
    private static final int[] NUMBERS = {0, 1, 2, 3, 8, 60, -1, -128, Integer.MIN_VALUE, Integer.MAX_VALUE};

    private final Random chance;
    private final List<Integer> out = new ArrayList<>();
    /** How many results each label takes; the body's is the first. */
    private final List<Integer> labels = new ArrayList<>();
    private int budget;

    private EnginesAgreeTest(long seed) {
        chance = new Random(seed);
    }

    public static void main(String[] args) {
        int loaded = 0;
        int[] outcomes = new int[7];
        for (int seed = 0; seed < MODULES; seed++) {
            EnginesAgreeTest test = new EnginesAgreeTest(seed);
            int[] module = test.module();
            if (module.length <= 240 && Check.fed(module).load() == 0) {
                loaded++;
                for (int function = 0; function < FUNCTIONS; function++) {
                    outcomes[test.compare(seed, module, function)]++;
                }
            }
        }
        System.out.println(loaded + " modules, outcomes " + java.util.Arrays.toString(outcomes));
        Check.due("enough modules are valid", loaded > MODULES / 2, true);
        for (int outcome : new int[] {0, 1, 2, 3, 5, 6}) {
            Check.due("there is outcome " + outcome, outcomes[outcome] > 0, true);
        }
        Check.finish();
    }

    private int compare(int seed, int[] module, int function) {
        String what = "module " + seed + ", function " + function;
        WasmMachine stack = Check.ready(what, module);
        WasmMachine registers = Check.ready(what, module);
        int argument = number();
        Check.start(what, stack, function, 0, argument);
        Check.start(what, registers, function, 1, argument);
        int outcome = 0;
        // An object is used for at most 512 calls, 240 of them to feed it.
        for (int i = 0; i < 80 && outcome == 0; i++) {
            int fuel = i == 0 ? 0 : i < 60 ? 1 : chance.nextInt(300);
            outcome = stack.run(fuel);
            Check.due(what + ", run " + i, registers.run(fuel), outcome);
            Check.due(what + ", result " + i, registers.result(), stack.result());
            int at = chance.nextInt(256);
            Check.due(what + ", memory " + i, registers.peekMem(at), stack.peekMem(at));
        }
        return outcome;
    }

    private int[] module() {
        int[][] bodies = new int[FUNCTIONS][];
        for (int i = 0; i < FUNCTIONS; i++) {
            out.clear();
            labels.clear();
            labels.add(1);
            budget = 4 + chance.nextInt(12);
            statements();
            expression();
            int[] bytes = new int[out.size()];
            for (int k = 0; k < bytes.length; k++) {
                bytes[k] = out.get(k);
            }
            bodies[i] = Mod.body(LOCALS - 1, bytes);
        }
        return Mod.module(Mod.types(Mod.type(1, 1)), Mod.functions(new int[FUNCTIONS]), Mod.memory(1, 3),
            Mod.globals(Mod.global(1, 7)), Mod.code(bodies));
    }

    private int number() {
        return NUMBERS[chance.nextInt(NUMBERS.length)];
    }

    private void put(int... bytes) {
        for (int next : bytes) {
            out.add(next);
        }
        budget--;
    }

    private void statements() {
        for (int i = chance.nextInt(4); i > 0; i--) {
            statement();
        }
    }

    private void statement() {
        int kind = budget <= 0 ? 0 : chance.nextInt(10);
        switch (kind) {
            case 0:
                put(1);
                break;
            case 1:
            case 2:
                expression();
                put(33, chance.nextInt(LOCALS));
                break;
            case 3:
                expression();
                put(36, 0);
                break;
            case 4:
                expression();
                expression();
                put(new int[] {54, 58, 59}[chance.nextInt(3)], 0, chance.nextInt(20));
                break;
            case 5:
                expression();
                put(26);
                break;
            case 6:
                block(64);
                break;
            case 7:
                branchIf();
                break;
            case 8:
                branchByTable();
                break;
            default:
                expression();
                block(64);
                break;
        }
        if (kind == 9) {
            put(26);
        }
    }

    private void block(int type) {
        int op = 2 + chance.nextInt(3);
        if (op == 4) {
            expression();
        }
        put(op, type);
        labels.add(op != 3 && type == 127 ? 1 : 0);
        inside(type);
        if (op == 4 && (type == 127 || chance.nextBoolean())) {
            put(5);
            inside(type);
        }
        labels.remove(labels.size() - 1);
        put(11);
    }

    private void inside(int type) {
        statements();
        if (type == 127) {
            expression();
        }
    }

    private int resultsAt(int label) {
        return labels.get(labels.size() - 1 - label);
    }

    private void branchIf() {
        int label = chance.nextInt(labels.size());
        if (resultsAt(label) == 1) {
            expression();
        }
        expression();
        put(13, label);
        if (resultsAt(label) == 1) {
            put(26);
        }
    }

    private void branchByTable() {
        int last = chance.nextInt(labels.size());
        if (resultsAt(last) == 1) {
            expression();
        }
        expression();
        int count = chance.nextInt(4);
        put(14, count);
        for (int i = 0; i < count; i++) {
            int label = chance.nextInt(labels.size());
            put(resultsAt(label) == resultsAt(last) ? label : last);
        }
        put(last);
    }

    private void expression() {
        switch (budget <= 0 ? chance.nextInt(2) : chance.nextInt(13)) {
            case 0:
                put(Mod.con(number()));
                break;
            case 1:
                put(32, chance.nextInt(LOCALS));
                break;
            case 2:
            case 3:
                expression();
                expression();
                put(BINARY[chance.nextInt(BINARY.length)]);
                break;
            case 4:
                expression();
                put(UNARY[chance.nextInt(UNARY.length)]);
                break;
            case 5:
                expression();
                expression();
                expression();
                put(27);
                break;
            case 6:
            case 7:
                block(127);
                break;
            case 8:
                expression();
                put(34, chance.nextInt(LOCALS));
                break;
            case 9:
                expression();
                put(new int[] {40, 44, 45, 46, 47}[chance.nextInt(5)], 0, chance.nextInt(20));
                break;
            case 10:
                expression();
                put(chance.nextBoolean() ? new int[] {16, chance.nextInt(FUNCTIONS)} : new int[] {64, 0});
                break;
            case 11:
                put(chance.nextBoolean() ? new int[] {35, 0} : new int[] {63, 0});
                break;
            default:
                leadAway();
                break;
        }
    }

    /** What leads away stands for any operand. */
    private void leadAway() {
        int label = chance.nextInt(labels.size());
        if (chance.nextInt(4) == 0) {
            put(0);
        } else if (chance.nextInt(3) == 0) {
            expression();
            put(15);
        } else {
            if (resultsAt(label) == 1) {
                expression();
            }
            put(12, label);
        }
    }
}
