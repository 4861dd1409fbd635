import java.util.Arrays;

/** Makes modules from written-out code: an op and its number by turns. */
final class Build {
    private Build() {
    }

    static void code(FlatModule module, int f, int... opsAndNumbers) {
        for (int i = 0; i + 1 < opsAndNumbers.length; i += 2) {
            module.emit(f, opsAndNumbers[i], opsAndNumbers[i + 1]);
        }
    }

    /** A module whose function 0 has neither parameters nor locals. */
    static FlatModule simple(int result, int... opsAndNumbers) {
        return withLocals(0, 0, 0, result, opsAndNumbers);
    }

    static FlatModule withLocals(int n, int m, int types, int result, int... opsAndNumbers) {
        FlatModule module = new FlatModule();
        module.function(0, n, m, types, result);
        code(module, 0, opsAndNumbers);
        return module;
    }

    /** The types of parameters and locals as function() takes them. */
    static int types(int... types) {
        int bits = 0;
        for (int i = 0; i < types.length; i++) {
            bits |= types[i] << 2 * i;
        }
        return bits;
    }

    static int[] repeat(int times, int... part) {
        int[] all = new int[times * part.length];
        for (int i = 0; i < all.length; i++) {
            all[i] = part[i % part.length];
        }
        return all;
    }

    static int[] join(int[]... parts) {
        int[] all = new int[0];
        for (int[] part : parts) {
            int start = all.length;
            all = Arrays.copyOf(all, start + part.length);
            System.arraycopy(part, 0, all, start, part.length);
        }
        return all;
    }
}
