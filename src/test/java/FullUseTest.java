/** An object is used for at most 512 calls: the last one answers as the first. */
public final class FullUseTest {
    private static int calls;

    public static void main(String[] args) {
        Due.about("An object is used for at most 512 calls after it has been made");
        fullModule();
        checksAndRunsByTurns();
        Due.end();
    }

    /** Four functions of 40 instructions: f adds 10 eighths, or 10, to GLOBAL f. */
    private static void fullModule() {
        FlatModule module = new FlatModule();
        calls = 0;
        for (int f = 0; f < 4; f++) {
            module.function(f, 3, 3, -1, f);
            Build.code(module, f, Build.join(Build.repeat(9, Op.GET_GLOBAL, f, f, 1, Op.ADD, f, Op.SET_GLOBAL, f),
                    new int[] {Op.GET_GLOBAL, f, f, 1, Op.ADD, f, Op.RETURN, 0}));
            calls += 41;
        }
        Due.answers("check()", 0, module::check);
        calls++;
        for (int turn = 1; calls + 12 <= 512; turn++) {
            for (int f = 0; f < 4; f++) {
                int number = f;
                double step = f <= Op.LONG ? 1 : 0.125;
                double before = 9 * (turn - 1) * step;
                Due.answers("run", before + 10 * step, () -> module.run(number, 1, 2, 3, 40));
                Due.answers("global", before + 9 * step, () -> module.global(number));
                Due.answers("fuel", 40, () -> module.count(2));
                calls += 3;
            }
        }
        while (calls < 512) {
            Due.answers("call " + (calls + 1), 4, () -> module.count(0));
            calls++;
        }
    }

    private static void checksAndRunsByTurns() {
        FlatModule module = new FlatModule();
        module.function(3, 1, 0, Op.INT, Op.INT);
        Build.code(module, 3, Op.LOOP, Op.INT, Op.GET, 0, Op.CONST_INT, 1, Op.SUBTRACT, Op.INT, Op.KEEP, 0,
                Op.JUMP_IF, 0, Op.GET, 0, Op.END, 0);
        calls = 9;
        while (calls + 3 <= 511) {
            Due.answers("check()", 0, module::check);
            Due.answers("run", 0, () -> module.run(3, 59, 0, 0, 300));
            Due.fails("run without end", Due.STATE, () -> module.run(3, 0, 0, 0, 300));
            calls += 3;
        }
        Due.answers("fuel in the end", 300, () -> module.count(2));
    }
}
