/** Puts the bytes of modules together; nothing is checked, so that wrong modules can be made too. */
final class Mod {
    static final int I32 = 127;
    static final int[] HEADER = {0, 97, 115, 109, 1, 0, 0, 0};

    private Mod() {
    }

    static int[] b(int... bytes) {
        return bytes;
    }

    static int[] cat(int[]... parts) {
        int length = 0;
        for (int[] part : parts) {
            length += part.length;
        }
        int[] all = new int[length];
        int at = 0;
        for (int[] part : parts) {
            System.arraycopy(part, 0, all, at, part.length);
            at += part.length;
        }
        return all;
    }

    static int[] repeat(int times, int... bytes) {
        int[] all = new int[0];
        for (int i = 0; i < times; i++) {
            all = cat(all, bytes);
        }
        return all;
    }

    /** The shortest signed LEB128, so i32.const can take any number. */
    static int[] signed(int number) {
        int[] out = new int[0];
        int rest = number;
        while (true) {
            int low = rest & 127;
            rest >>= 7;
            boolean last = rest == 0 && (low & 64) == 0 || rest == -1 && (low & 64) != 0;
            out = cat(out, b(last ? low : low | 128));
            if (last) {
                return out;
            }
        }
    }

    static int[] unsigned(int number) {
        int[] out = new int[0];
        int rest = number;
        do {
            int low = rest & 127;
            rest >>>= 7;
            out = cat(out, b(rest == 0 ? low : low | 128));
        } while (rest != 0);
        return out;
    }

    static int[] con(int number) {
        return cat(b(65), signed(number));
    }

    static int[] module(int[]... sections) {
        return cat(HEADER, cat(sections));
    }

    static int[] section(int id, int[]... parts) {
        int[] content = cat(parts);
        return cat(b(id), unsigned(content.length), content);
    }

    static int[] vector(int id, int[]... items) {
        return section(id, unsigned(items.length), cat(items));
    }

    static int[] type(int parameters, int results) {
        return cat(b(96, parameters), repeat(parameters, I32), b(results), repeat(results, I32));
    }

    static int[] types(int[]... types) {
        return vector(1, types);
    }

    static int[] functions(int... types) {
        return section(3, b(types.length), types);
    }

    static int[] memory(int first) {
        return section(5, b(1, 0), unsigned(first));
    }

    static int[] memory(int first, int most) {
        return section(5, b(1, 1), unsigned(first), unsigned(most));
    }

    static int[] global(int changes, int value) {
        return cat(b(I32, changes, 65), signed(value), b(11));
    }

    static int[] globals(int[]... globals) {
        return vector(6, globals);
    }

    static int[] export(String name, int kind, int index) {
        int[] letters = new int[name.length()];
        for (int i = 0; i < letters.length; i++) {
            letters[i] = name.charAt(i);
        }
        return cat(unsigned(letters.length), letters, b(kind), unsigned(index));
    }

    static int[] exports(int[]... exports) {
        return vector(7, exports);
    }

    /** A body with one row of locals, or none, and the end that belongs to it. */
    static int[] body(int locals, int[]... instructions) {
        int[] rows = locals == 0 ? b(0) : b(1, locals, I32);
        return rawBody(rows, cat(instructions), b(11));
    }

    static int[] rawBody(int[]... parts) {
        int[] content = cat(parts);
        return cat(unsigned(content.length), content);
    }

    static int[] code(int[]... bodies) {
        return vector(10, bodies);
    }

    static int[] dataAt(int place, int... bytes) {
        return cat(b(0, 65), signed(place), b(11), unsigned(bytes.length), bytes);
    }

    static int[] data(int[]... data) {
        return vector(11, data);
    }

    /** A module with one function, and a memory of one page that may have three, and a global that changes. */
    static int[] single(int parameters, int results, int locals, int[]... instructions) {
        return module(types(type(parameters, results)), functions(0), memory(1, 3), globals(global(1, 5)),
            code(body(locals, instructions)));
    }
}
