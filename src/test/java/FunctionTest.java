/** Promise 2: function() makes a function, or makes it anew. */
public final class FunctionTest {
    public static void main(String[] args) {
        badNumbers();
        edgesOfTheNumbers();
        everyNumberInRange();
        typesOfEveryNumberOfLocals();
        typesAreTheLowestBits();
        higherBitsDoNotMatter();
        madeAnew();
        fullOneMadeAnew();
        throwingChangesNothing();
        Due.end();
    }

    private static void badNumbers() {
        int[][] bad = {{-1, 0, 0, 0, 0}, {4, 0, 0, 0, 0}, {0, -1, 0, 0, 0}, {0, 4, 0, 0, 0}, {0, 0, -1, 0, 0},
            {0, 0, 4, 0, 0}, {0, 0, 0, 0, -1}, {0, 0, 0, 0, 5}, {Integer.MIN_VALUE, 0, 0, 0, 0},
            {0, Integer.MAX_VALUE, 0, 0, 0}};
        for (int[] b : bad) {
            FlatModule module = new FlatModule();
            Due.fails("function with a bad number", Due.BAD,
                    Due.doing(() -> module.function(b[0], b[1], b[2], b[3], b[4])));
            Due.answers("functions after it", 0, () -> module.count(0));
        }
    }

    private static void edgesOfTheNumbers() {
        FlatModule module = new FlatModule();
        Due.answers("function 0, smallest", 0, Due.doing(() -> module.function(0, 0, 0, 0, 0)));
        Due.answers("function 3, largest", 0, Due.doing(() -> module.function(3, 3, 3, -1, 4)));
        Due.answers("how many", 2, () -> module.count(0));
        Build.code(module, 0, Op.CONST_INT, 1);
        Build.code(module, 3, Op.GET, 5, Op.DROP, 0);
        Due.answers("six locals", 0, module::check);
        Build.code(module, 3, Op.GET, 6, Op.DROP, 0);
        Due.answers("no seventh", 30201, module::check);
    }

    private static void everyNumberInRange() {
        Due.about("FUNCTION f (0 .. 3) is there, without CODE, with n PARAMETERS (0 .. 3) and m LOCALS (0 .. 3)");
        for (int f = -1; f <= 4; f++) {
            for (int n = -1; n <= 4; n++) {
                for (int m = -1; m <= 4; m++) {
                    for (int result = -1; result <= 5; result++) {
                        dueToBeMade(f, n, m, result);
                    }
                }
            }
        }
    }

    private static void dueToBeMade(int f, int n, int m, int result) {
        boolean allowed = f >= 0 && f <= 3 && n >= 0 && n <= 3 && m >= 0 && m <= 3 && result >= 0 && result <= 4;
        FlatModule module = new FlatModule();
        Due.same("function(" + f + ", " + n + ", " + m + ", 0, " + result + ")",
                Due.outcome(Due.doing(() -> module.function(f, n, m, 0, result))), allowed ? "0.0" : Due.BAD);
        Due.answers("functions then", allowed ? 1 : 0, () -> module.count(0));
        if (allowed) {
            Due.answers("result wanted", result == Op.NONE ? 0 : 10000 * f + 2, module::check);
            Due.answers("it can have code", 1, () -> module.emit(f, Op.RETURN, 0));
        }
    }

    private static void typesOfEveryNumberOfLocals() {
        Due.about("whose TYPES, PARAMETERS first, are the lowest bits of types, two each");
        int[] rows = {0, -1, 0b111001001110, 0b000110110001, Integer.MIN_VALUE, Integer.MAX_VALUE, ~0b111001001110};
        for (int types : rows) {
            for (int n = 0; n <= 3; n++) {
                for (int m = 0; m <= 3; m++) {
                    for (int local = 0; local < n + m; local++) {
                        int type = types >>> 2 * local & 3;
                        String what = "local " + local + " of " + n + " and " + m + ", types " + types;
                        FlatModule module = Build.withLocals(n, m, types, type, Op.GET, local);
                        Due.answers(what, 0, module::check);
                        double given = local + 0.75;
                        double want = local >= n ? 0 : type <= Op.LONG ? local : given;
                        Due.answers(what + ", run", want, () -> module.run(0, 0.75, 1.75, 2.75, 1));
                    }
                }
            }
        }
    }

    private static void typesAreTheLowestBits() {
        int[] types = {Op.DOUBLE, Op.INT, Op.FLOAT, Op.LONG, Op.DOUBLE, Op.FLOAT};
        for (int local = 0; local < 6; local++) {
            for (int result = 0; result < 4; result++) {
                FlatModule module = Build.withLocals(3, 3, Build.types(types), result, Op.GET, local);
                Due.answers("local " + local + " as " + result, types[local] == result ? 0 : 103, module::check);
            }
        }
    }

    private static void higherBitsDoNotMatter() {
        FlatModule module = Build.withLocals(1, 0, ~3 | Op.LONG, Op.LONG, Op.GET, 0);
        Due.answers("check with higher bits", 0, module::check);
        Due.answers("run with higher bits", 5, () -> module.run(0, 5, 6, 7, 1));
    }

    private static void madeAnew() {
        FlatModule module = Build.withLocals(1, 1, 0, Op.INT, Op.GET, 1);
        Due.answers("check()", 0, module::check);
        module.function(0, 0, 0, 0, Op.NONE);
        Due.answers("still one function", 1, () -> module.count(0));
        Due.answers("without code", 0, () -> module.count(10));
        Due.answers("not checked", 0, () -> module.count(1));
        Due.fails("not to be run", Due.STATE, () -> module.run(0, 0, 0, 0, 1));
        Due.answers("check() of the new one", 0, module::check);
        Due.answers("no result", 0, () -> module.run(0, 9, 0, 0, 1));
        Due.answers("first instruction", 1, () -> module.emit(0, Op.GET, 0));
        Due.answers("no locals any more", 1, module::check);
    }

    private static void fullOneMadeAnew() {
        Due.about("FUNCTION f (0 .. 3) is there, without CODE");
        FlatModule module = new FlatModule();
        for (int f = 0; f < 4; f++) {
            int number = f;
            Due.answers("the next FUNCTION", 0, Due.doing(() -> module.function(number, 3, 3, -1, Op.NONE)));
            Due.answers("how many", f + 1, () -> module.count(0));
            Build.code(module, f, Build.repeat(40, Op.GET, f));
        }
        for (int f = 0; f < 4; f++) {
            int number = f;
            Due.answers("made anew", 0, Due.doing(() -> module.function(number, 0, 0, 0, Op.NONE)));
            Due.answers("as many as before", 4, () -> module.count(0));
            for (int other = 0; other < 4; other++) {
                int o = other;
                Due.answers("code of " + other, other <= f ? 0 : 40, () -> module.count(10 + o));
            }
            Due.answers("room again", 1, () -> module.emit(number, Op.BLOCK, Op.NONE));
            Due.answers("and more", 2, () -> module.emit(number, Op.END, 0));
            module.function(f, 0, 0, 0, Op.NONE);
        }
        Due.answers("all without fault", 0, module::check);
    }

    private static void throwingChangesNothing() {
        FlatModule module = Build.simple(Op.INT, Op.CONST_INT, 3);
        module.check();
        Due.fails("bad result", Due.BAD, Due.doing(() -> module.function(0, 0, 0, 0, 5)));
        Due.answers("code is there", 1, () -> module.count(10));
        Due.answers("still checked", 1, () -> module.count(1));
        Due.answers("still runs", 3, () -> module.run(0, 0, 0, 0, 1));
        module.function(2, 0, 0, 0, Op.NONE);
        Due.answers("one more function: not checked", 0, () -> module.count(1));
    }
}
