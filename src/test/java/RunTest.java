import java.util.Random;

/** Promise 6: run() runs a checked function with fuel, calls and traps. */
public final class RunTest {
    private static final double LIMIT = 1000000000.0;

    public static void main(String[] args) {
        badComesFirst();
        constantsLocalsAndGlobals();
        parametersAndResult();
        wholeArithmetic();
        fractionArithmetic();
        floatsAreRoundedOnce();
        comparisons();
        conversions();
        conversionsThatTrap();
        framesAndJumps();
        fuel();
        calls();
        traps();
        numbersWithoutEnd();
        Due.end();
    }

    private static FlatModule checked(FlatModule module) {
        Due.answers("check()", 0, module::check);
        return module;
    }

    /** What the code of a function without parameters answers. */
    private static void due(String what, double want, int result, int... code) {
        FlatModule module = checked(Build.simple(result, code));
        Due.answers(what, want, () -> module.run(0, 0, 0, 0, 300));
    }

    private static void dueOf(int op, int type, double x, double y, double want) {
        FlatModule module = binary(op, type);
        Due.answers(x + " and " + y + " by op " + op + " of type " + type, want, () -> module.run(0, x, y, 0, 3));
    }

    private static void dueTrap(int op, int type, double x, double y) {
        FlatModule module = binary(op, type);
        Due.fails(x + " and " + y + " by op " + op + " of type " + type, Due.ARITHMETIC,
                () -> module.run(0, x, y, 0, 3));
        Due.answers("its fuel", 3, () -> module.count(2));
    }

    private static FlatModule binary(int op, int type) {
        int result = op == Op.BELOW || op == Op.EQUAL ? Op.INT : type;
        return checked(Build.withLocals(2, 0, Build.types(type, type), result, Op.GET, 0, Op.GET, 1, op, type));
    }

    private static FlatModule converter(int from, int to) {
        return checked(Build.withLocals(1, 0, from, to, Op.GET, 0, Op.CONVERT, 4 * from + to));
    }

    private static void badComesFirst() {
        FlatModule module = Build.simple(Op.INT);
        Due.fails("fuel 0", Due.BAD, () -> module.run(0, 0, 0, 0, 0));
        Due.fails("fuel -1", Due.BAD, () -> module.run(0, 0, 0, 0, -1));
        Due.fails("fuel 301", Due.BAD, () -> module.run(0, 0, 0, 0, 301));
        Due.fails("function -1", Due.BAD, () -> module.run(-1, 0, 0, 0, 1));
        Due.fails("function 4", Due.BAD, () -> module.run(4, 0, 0, 0, 1));
        Due.fails("no function", Due.BAD, () -> module.run(1, 0, 0, 0, 1));
        Due.fails("not checked", Due.STATE, () -> module.run(0, 0, 0, 0, 1));
        module.check();
        Due.fails("not without fault", Due.STATE, () -> module.run(0, 0, 0, 0, 300));
        module.emit(0, Op.CONST_INT, 4);
        Due.fails("changed", Due.STATE, () -> module.run(0, 0, 0, 0, 300));
        module.check();
        Due.answers("fuel 1", 4, () -> module.run(0, 0, 0, 0, 1));
        Due.answers("fuel 300", 4, () -> module.run(0, 0, 0, 0, 300));
    }

    private static void constantsLocalsAndGlobals() {
        due("INT", -2147483648.0, Op.INT, Op.CONST_INT, Integer.MIN_VALUE);
        due("LONG", -2147483648.0, Op.LONG, Op.CONST_LONG, Integer.MIN_VALUE);
        due("FLOAT", -1.125, Op.FLOAT, Op.CONST_FLOAT, -9);
        due("FLOAT, rounded first", 2097152.0, Op.FLOAT, Op.CONST_FLOAT, 16777217);
        due("DOUBLE", 2097152.125, Op.DOUBLE, Op.CONST_DOUBLE, 16777217);
        due("largest DOUBLE", 268435455.875, Op.DOUBLE, Op.CONST_DOUBLE, Integer.MAX_VALUE);
        due("drop", 1, Op.INT, Op.CONST_INT, 1, Op.CONST_DOUBLE, 2, Op.DROP, 0);
        for (int type = 0; type < 4; type++) {
            double eight = type <= Op.LONG ? 8 : 1;
            due("the first", eight, type, type, 8, type, 16, Op.CONST_INT, -1, Op.CHOOSE, 0);
            due("the second", 2 * eight, type, type, 8, type, 16, Op.CONST_INT, 0, Op.CHOOSE, 0);
            due("global", eight, type, type, 8, Op.SET_GLOBAL, type, Op.GET_GLOBAL, type);
            FlatModule locals = checked(Build.withLocals(1, 1, Build.types(type, type), type, Op.GET, 1, type, 8,
                    Op.KEEP, 1, Op.ADD, type, Op.GET, 1, Op.ADD, type, Op.SET, 0, Op.GET, 0));
            Due.answers("locals begin at 0", 2 * eight, () -> locals.run(0, 100, 0, 0, 99));
            Due.answers("in each run", 2 * eight, () -> locals.run(0, 100, 0, 0, 99));
        }
    }

    private static void parametersAndResult() {
        double[] given = {-2.75, 3e9, 1e300, -1e300, 16777217.0, 0.1};
        for (double x : given) {
            double[] want = {(int) x, (long) x, (float) x, x};
            for (int type = 0; type < 4; type++) {
                FlatModule module = checked(Build.withLocals(1, 0, type, type, Op.GET, 0));
                Due.answers(x + " as type " + type, want[type], () -> module.run(0, x, 7, 7, 1));
            }
        }
        for (int parameter = 0; parameter < 3; parameter++) {
            FlatModule module = checked(Build.withLocals(3, 0, Build.types(3, 3, 3), Op.DOUBLE, Op.GET, parameter));
            Due.answers("parameter " + parameter, parameter + 0.5, () -> module.run(0, 0.5, 1.5, 2.5, 1));
        }
        FlatModule none = checked(Build.simple(Op.NONE, Op.CONST_INT, 3, Op.DROP, 0));
        Due.answers("no result", 0, () -> none.run(0, 5, 5, 5, 2));
        FlatModule unneeded = checked(Build.withLocals(1, 2, Build.types(3, 3, 3), Op.DOUBLE, Op.GET, 1, Op.GET, 2,
                Op.ADD, Op.DOUBLE));
        Due.answers("what isn't needed", 0, () -> unneeded.run(0, 5, 6, 7, 9));
    }

    private static void wholeArithmetic() {
        double lowestInt = Integer.MIN_VALUE;
        double lowestLong = Long.MIN_VALUE;
        dueOf(Op.ADD, Op.INT, Integer.MAX_VALUE, 1, lowestInt);
        dueOf(Op.SUBTRACT, Op.INT, lowestInt, 1, Integer.MAX_VALUE);
        dueOf(Op.MULTIPLY, Op.INT, 65537, 65537, 131073);
        dueOf(Op.DIVIDE, Op.INT, -7, 2, -3);
        dueOf(Op.DIVIDE, Op.INT, lowestInt, -1, lowestInt);
        dueOf(Op.REST, Op.INT, -7, 2, -1);
        dueOf(Op.REST, Op.INT, 7, -2, 1);
        dueOf(Op.REST, Op.INT, lowestInt, -1, 0);
        dueOf(Op.AND, Op.INT, -2, 255, 254);
        dueOf(Op.SHIFT_LEFT, Op.INT, 3, 33, 6);
        dueOf(Op.SHIFT_LEFT, Op.INT, 1, 31, lowestInt);
        dueOf(Op.SHIFT_LEFT, Op.INT, 1, -1, lowestInt);
        dueOf(Op.ADD, Op.LONG, Integer.MAX_VALUE, 1, 2147483648.0);
        dueOf(Op.SUBTRACT, Op.LONG, lowestLong, 1024, 9223372036854774784.0);
        dueOf(Op.MULTIPLY, Op.LONG, 4294967296.0, 4294967297.0, 4294967296.0);
        dueOf(Op.DIVIDE, Op.LONG, -9, 2, -4);
        dueOf(Op.DIVIDE, Op.LONG, lowestLong, -1, lowestLong);
        dueOf(Op.REST, Op.LONG, -9, 4, -1);
        dueOf(Op.REST, Op.LONG, lowestLong, -1, 0);
        dueOf(Op.AND, Op.LONG, -1, 1099511627777.0, 1099511627777.0);
        dueOf(Op.SHIFT_LEFT, Op.LONG, 3, 33, 25769803776.0);
        dueOf(Op.SHIFT_LEFT, Op.LONG, 3, 65, 6);
        dueOf(Op.SHIFT_LEFT, Op.LONG, 1, -1, lowestLong);
        for (int op : new int[] {Op.DIVIDE, Op.REST}) {
            dueTrap(op, Op.INT, 1, 0);
            dueTrap(op, Op.LONG, 0, 0);
        }
    }

    private static void fractionArithmetic() {
        for (int type = Op.FLOAT; type <= Op.DOUBLE; type++) {
            dueOf(Op.ADD, type, 1.5, 0.25, 1.75);
            dueOf(Op.SUBTRACT, type, 1.5, 0.25, 1.25);
            dueOf(Op.MULTIPLY, type, 1.5, 0.25, 0.375);
            dueOf(Op.DIVIDE, type, 1.5, 0.25, 6);
            dueTrap(Op.DIVIDE, type, 1, 0.0);
            dueTrap(Op.DIVIDE, type, 1, -0.0);
            dueTrap(Op.DIVIDE, type, 0, 0);
            dueOf(Op.ADD, type, LIMIT, 0, LIMIT);
            dueOf(Op.SUBTRACT, type, -LIMIT, 0, -LIMIT);
            dueOf(Op.MULTIPLY, type, LIMIT, -1, -LIMIT);
            dueOf(Op.DIVIDE, type, LIMIT, 1, LIMIT);
            dueTrap(Op.ADD, type, LIMIT, 128);
            dueTrap(Op.SUBTRACT, type, -LIMIT, 128);
            dueTrap(Op.MULTIPLY, type, 65536, 65536);
            dueTrap(Op.MULTIPLY, type, 65536, -65536);
            dueTrap(Op.DIVIDE, type, LIMIT, 0.5);
            dueOf(Op.SUBTRACT, type, 4294967296.0, 4294967296.0, 0);
        }
        dueOf(Op.DIVIDE, Op.FLOAT, 1, 3, 1.0f / 3.0f);
        dueOf(Op.DIVIDE, Op.DOUBLE, 1, 3, 1.0 / 3.0);
        dueOf(Op.ADD, Op.FLOAT, 16777216, 1, 16777216);
        dueOf(Op.ADD, Op.DOUBLE, 16777216, 1, 16777217);
        dueOf(Op.MULTIPLY, Op.FLOAT, 0.1, 0.1, 0.1f * 0.1f);
        dueOf(Op.ADD, Op.FLOAT, LIMIT, 16, LIMIT);
        dueTrap(Op.ADD, Op.DOUBLE, LIMIT, 0.0001);
        dueTrap(Op.MULTIPLY, Op.FLOAT, 1e38, 1e38);
        dueTrap(Op.MULTIPLY, Op.DOUBLE, 1e300, -1e300);
    }

    /** Floats of all sizes, made by chance with a fixed seed: each outcome is the one that Java's floats have. */
    private static void floatsAreRoundedOnce() {
        Random chance = new Random(1);
        FlatModule[] modules = new FlatModule[4];
        for (int i = 0; i < 40000; i++) {
            for (int k = 0; k < 4 && i % 400 == 0; k++) {
                // An object is used for 512 calls at most.
                modules[k] = binary(Op.ADD + k, Op.FLOAT);
            }
            float a = chanceFloat(chance);
            float near = Math.scalb(1 + chance.nextFloat(), Math.getExponent(a) - i % 60);
            float b = i % 2 == 0 ? chanceFloat(chance) : near;
            float[] wants = {a + b, a - b, a * b, a / b};
            for (int k = 0; k < 4; k++) {
                FlatModule module = modules[k];
                String want = Math.abs(wants[k]) <= LIMIT ? String.valueOf(wants[k] + 0.0) : Due.ARITHMETIC;
                Due.same(a + " and " + b + " by " + k, Due.outcome(() -> module.run(0, a, b, 0, 3)), want);
            }
        }
    }

    private static float chanceFloat(Random chance) {
        float value = Float.intBitsToFloat(chance.nextInt());
        return Float.isFinite(value) ? value : 1;
    }

    private static void comparisons() {
        for (int type = 0; type < 4; type++) {
            dueOf(Op.BELOW, type, 1, 2, 1);
            dueOf(Op.BELOW, type, 2, 2, 0);
            dueOf(Op.BELOW, type, 3, 2, 0);
            dueOf(Op.BELOW, type, -3, 2, 1);
            dueOf(Op.EQUAL, type, 2, 2, 1);
            dueOf(Op.EQUAL, type, 2, 3, 0);
        }
        dueOf(Op.BELOW, Op.LONG, 4294967296.0, 1, 0);
        dueOf(Op.EQUAL, Op.LONG, 4294967296.0, 0, 0);
        dueOf(Op.EQUAL, Op.FLOAT, 16777217, 16777216, 1);
        dueOf(Op.EQUAL, Op.DOUBLE, 16777217, 16777216, 0);
        dueOf(Op.BELOW, Op.DOUBLE, 0.125, 0.25, 1);
        dueOf(Op.EQUAL, Op.DOUBLE, 0.0, -0.0, 1);
    }

    private static void conversions() {
        double[] given = {0, -1, 2.5, -2.5, 16777217, 123456789.75, -999999999};
        for (int from = 0; from < 4; from++) {
            for (int to = 0; to < 4; to++) {
                FlatModule module = converter(from, to);
                for (double x : given) {
                    double value = cast(x, from);
                    Due.answers(x + " from " + from + " to " + to, cast(value, to), () -> module.run(0, x, 0, 0, 2));
                }
            }
        }
        FlatModule cut = converter(Op.LONG, Op.INT);
        Due.answers("LONG cut to INT", 1, () -> cut.run(0, 4294967297.0, 0, 0, 2));
        Due.answers("LONG cut to a negative INT", -2147483648.0, () -> cut.run(0, 2147483648.0, 0, 0, 2));
        for (int from = Op.FLOAT; from <= Op.DOUBLE; from++) {
            FlatModule toInt = converter(from, Op.INT);
            FlatModule toLong = converter(from, Op.LONG);
            Due.answers("to the largest INT", Integer.MAX_VALUE, () -> toInt.run(0, 1e12, 0, 0, 2));
            Due.answers("to the lowest INT", Integer.MIN_VALUE, () -> toInt.run(0, -1e12, 0, 0, 2));
            Due.answers("to the largest LONG", (double) Long.MAX_VALUE, () -> toLong.run(0, 1e30, 0, 0, 2));
        }
        FlatModule once = converter(Op.LONG, Op.FLOAT);
        Due.answers("LONG to FLOAT", (float) 999999967L, () -> once.run(0, 999999967.0, 0, 0, 2));
    }

    private static double cast(double value, int type) {
        double[] all = {(int) value, (long) value, (float) value, value};
        return all[type];
    }

    private static void conversionsThatTrap() {
        for (int from = 0; from < 4; from++) {
            for (int to = Op.FLOAT; to <= Op.DOUBLE; to++) {
                FlatModule module = converter(from, to);
                Due.fails("above, from " + from, Due.ARITHMETIC, () -> module.run(0, 1000000128.0, 0, 0, 2));
                Due.fails("below, from " + from, Due.ARITHMETIC, () -> module.run(0, -1000000128.0, 0, 0, 2));
                Due.answers("just there, from " + from, LIMIT, () -> module.run(0, LIMIT, 0, 0, 2));
                Due.answers("just there below, from " + from, -LIMIT, () -> module.run(0, -LIMIT, 0, 0, 2));
            }
        }
        FlatModule rounded = converter(Op.INT, Op.FLOAT);
        Due.answers("the outcome counts", LIMIT, () -> rounded.run(0, 1000000001.0, 0, 0, 2));
        FlatModule exact = converter(Op.INT, Op.DOUBLE);
        Due.fails("of each size", Due.ARITHMETIC, () -> exact.run(0, 1000000001.0, 0, 0, 2));
        FlatModule large = converter(Op.DOUBLE, Op.FLOAT);
        Due.fails("too large for a FLOAT", Due.ARITHMETIC, () -> large.run(0, 1e300, 0, 0, 2));
    }

    private static void framesAndJumps() {
        FlatModule branch = checked(Build.withLocals(1, 0, Op.INT, Op.LONG, Op.GET, 0, Op.IF, Op.LONG,
                Op.CONST_LONG, 1, Op.ELSE, 0, Op.CONST_LONG, 2, Op.END, 0));
        Due.answers("then", 1, () -> branch.run(0, -5, 0, 0, 9));
        Due.answers("else", 2, () -> branch.run(0, 0, 0, 0, 9));
        FlatModule noElse = checked(Build.withLocals(1, 0, Op.INT, Op.INT, Op.CONST_INT, 3, Op.GET, 0, Op.IF, Op.NONE,
                Op.CONST_INT, 4, Op.SET_GLOBAL, 0, Op.END, 0, Op.GET_GLOBAL, 0, Op.ADD, Op.INT));
        Due.answers("passed by", 3, () -> noElse.run(0, 0, 0, 0, 9));
        Due.answers("gone through", 7, () -> noElse.run(0, 1, 0, 0, 9));
        due("a jump brings its value over others", 12, Op.INT, Op.CONST_INT, 10, Op.BLOCK, Op.INT, Op.CONST_LONG, 5,
                Op.CONST_DOUBLE, 6, Op.CONST_INT, 2, Op.JUMP, 0, Op.END, 0, Op.ADD, Op.INT);
        due("out of two frames", 12, Op.INT, Op.CONST_INT, 10, Op.BLOCK, Op.INT, Op.CONST_LONG, 5, Op.BLOCK, Op.LONG,
                Op.CONST_INT, 2, Op.JUMP, 1, Op.END, 0, Op.DROP, 0, Op.DROP, 0, Op.CONST_INT, 99, Op.END, 0,
                Op.ADD, Op.INT);
        due("return over others", 2, Op.INT, Op.CONST_INT, 10, Op.BLOCK, Op.NONE, Op.CONST_INT, 7, Op.CONST_INT, 2,
                Op.RETURN, 0, Op.END, 0);
        FlatModule jumpIf = checked(Build.withLocals(1, 0, Op.INT, Op.INT, Op.CONST_INT, 10, Op.BLOCK, Op.INT,
                Op.CONST_LONG, 1, Op.CONST_INT, 5, Op.GET, 0, Op.JUMP_IF, 0, Op.CONST_INT, 1, Op.ADD, Op.INT,
                Op.SET_GLOBAL, 0, Op.DROP, 0, Op.GET_GLOBAL, 0, Op.END, 0, Op.ADD, Op.INT));
        Due.answers("jumps", 15, () -> jumpIf.run(0, 3, 0, 0, 99));
        Due.answers("goes on, with the value put back", 16, () -> jumpIf.run(0, 0, 0, 0, 99));
        FlatModule sum = checked(Build.withLocals(1, 1, Build.types(Op.INT, Op.INT), Op.INT, Op.LOOP, Op.INT,
                Op.GET, 1, Op.GET, 0, Op.ADD, Op.INT, Op.SET, 1, Op.GET, 0, Op.CONST_INT, 1, Op.SUBTRACT, Op.INT,
                Op.KEEP, 0, Op.JUMP_IF, 0, Op.GET, 1, Op.END, 0));
        Due.answers("a loop", 55, () -> sum.run(0, 10, 0, 0, 300));
        Due.answers("its fuel", 91, () -> sum.count(2));
        due("out of then, past else", 3, Op.INT, Op.CONST_INT, 1, Op.IF, Op.INT, Op.CONST_INT, 3, Op.JUMP, 0,
                Op.ELSE, 0, Op.CONST_INT, 4, Op.END, 0);
        due("a frame that is left in one way only", 6, Op.INT, Op.BLOCK, Op.INT, Op.BLOCK, Op.NONE, Op.CONST_INT, 6,
                Op.JUMP, 1, Op.END, 0, Op.TRAP, 0, Op.END, 0);
    }

    private static void fuel() {
        FlatModule free = checked(Build.simple(Op.INT, Op.BLOCK, Op.INT, Op.LOOP, Op.INT, Op.CONST_INT, 1, Op.END, 0,
                Op.END, 0));
        Due.answers("block, loop and end take none", 1, () -> free.run(0, 0, 0, 0, 1));
        FlatModule module = checked(Build.withLocals(1, 0, Op.INT, Op.NONE, Op.GET, 0, Op.IF, Op.NONE, Op.ELSE, 0,
                Op.END, 0));
        module.run(0, 1, 0, 0, 3);
        Due.answers("else from above takes one", 3, () -> module.count(2));
        Due.fails("which is needed", Due.STATE, () -> module.run(0, 1, 0, 0, 2));
        Due.answers("two are used", 2, () -> module.count(2));
        Due.answers("else from the if takes none", 0, () -> module.run(0, 0, 0, 0, 2));
        FlatModule every = checked(Build.withLocals(0, 1, 0, Op.INT, Op.CONST_INT, 1, Op.KEEP, 0, Op.DROP, 0,
                Op.GET, 0, Op.SET_GLOBAL, 0, Op.GET_GLOBAL, 0, Op.CONST_INT, 2, Op.CONST_INT, 1, Op.CHOOSE, 0,
                Op.CONVERT, 0, Op.CONST_INT, 0, Op.JUMP_IF, 0, Op.RETURN, 0));
        Due.answers("just enough", 1, () -> every.run(0, 0, 0, 0, 13));
        Due.fails("one too few", Due.STATE, () -> every.run(0, 0, 0, 0, 12));
        FlatModule endless = checked(Build.simple(Op.NONE, Op.LOOP, Op.NONE, Op.JUMP, 0, Op.END, 0));
        Due.fails("a loop without end", Due.STATE, () -> endless.run(0, 0, 0, 0, 300));
        Due.answers("its fuel", 300, () -> endless.count(2));
        FlatModule late = checked(Build.simple(Op.NONE, Op.CONST_INT, 1, Op.DROP, 0, Op.TRAP, 0));
        Due.fails("no fuel for the trap", Due.STATE, () -> late.run(0, 0, 0, 0, 2));
        Due.fails("fuel for the trap", Due.TRAPPED, () -> late.run(0, 0, 0, 0, 3));
    }

    private static void calls() {
        FlatModule module = checked(Build.withLocals(1, 0, Op.INT, Op.INT, Op.GET, 0, Op.IF, Op.INT, Op.GET, 0,
                Op.GET, 0, Op.CONST_INT, 1, Op.SUBTRACT, Op.INT, Op.CALL, 0, Op.MULTIPLY, Op.INT, Op.ELSE, 0,
                Op.CONST_INT, 1, Op.END, 0));
        Due.answers("8 calls within one another", 5040, () -> module.run(0, 7, 0, 0, 300));
        Due.answers("counted", 8, () -> module.count(3));
        Due.fails("9 calls", Due.STATE, () -> module.run(0, 8, 0, 0, 300));
        Due.answers("counted until then", 8, () -> module.count(3));
        Due.answers("with their fuel", 7 * 8, () -> module.count(2));
        Due.answers("calls of an earlier run do not count", 1, () -> module.run(0, 0, 0, 0, 300));

        FlatModule several = new FlatModule();
        several.function(0, 0, 1, Op.LONG, Op.DOUBLE);
        Build.code(several, 0, Op.CONST_LONG, 77, Op.SET, 0, Op.CONST_INT, 9, Op.CONST_INT, 2, Op.CONST_LONG, 3,
                Op.CONST_DOUBLE, 4, Op.CALL, 1, Op.GET, 0, Op.CONVERT, 7, Op.ADD, Op.DOUBLE, Op.RETURN, 0);
        several.function(1, 3, 2, Build.types(Op.INT, Op.LONG, Op.DOUBLE, Op.DOUBLE, Op.DOUBLE), Op.DOUBLE);
        Build.code(several, 1, Op.GET, 0, Op.CONVERT, 3, Op.CONST_DOUBLE, 800, Op.MULTIPLY, Op.DOUBLE,
                Op.GET, 1, Op.CONVERT, 7, Op.CONST_DOUBLE, 80, Op.MULTIPLY, Op.DOUBLE, Op.ADD, Op.DOUBLE,
                Op.GET, 2, Op.ADD, Op.DOUBLE, Op.GET, 3, Op.ADD, Op.DOUBLE, Op.CALL, 2, Op.CONST_INT, 5,
                Op.SET, 0, Op.CONST_DOUBLE, 8, Op.SET, 3);
        several.function(2, 0, 0, 0, Op.NONE);
        Build.code(several, 2, Op.CONST_INT, 6, Op.SET_GLOBAL, 0);
        checked(several);
        Due.answers("parameters in order, locals of its own", 307.5, () -> several.run(0, 0, 0, 0, 99));
        Due.answers("again", 307.5, () -> several.run(0, 0, 0, 0, 99));
        Due.answers("a global set three calls deep", 6, () -> several.global(0));
        Due.answers("deepest", 3, () -> several.count(3));
        trapInsideCalls();
    }

    private static void trapInsideCalls() {
        FlatModule module = Build.simple(Op.INT, Op.CALL, 1);
        module.function(1, 0, 0, 0, Op.INT);
        Build.code(module, 1, Op.CONST_INT, 1, Op.CONST_INT, 0, Op.REST, Op.INT);
        checked(module);
        Due.fails("a trap inside", Due.ARITHMETIC, () -> module.run(0, 0, 0, 0, 99));
        Due.answers("fuel", 4, () -> module.count(2));
        Due.answers("calls", 2, () -> module.count(3));
        Due.fails("the same again", Due.ARITHMETIC, () -> module.run(0, 0, 0, 0, 99));
        Due.answers("still checked", 1, () -> module.count(1));
    }

    private static void traps() {
        FlatModule module = checked(Build.simple(Op.DOUBLE, Op.TRAP, 0, Op.ADD, Op.DOUBLE));
        Due.fails("trap", Due.TRAPPED, () -> module.run(0, 0, 0, 0, 99));
        Due.answers("its fuel", 1, () -> module.count(2));
        FlatModule untouched = checked(Build.withLocals(2, 0, Build.types(3, 3), Op.INT, Op.GET, 0, Op.GET, 1,
                Op.BELOW, Op.DOUBLE));
        Due.answers("large values alone do not trap", 1, () -> untouched.run(0, 1e200, 1e201, 0, 9));
    }

    /** Such parameters are not ruled out, but arithmetic may not answer what is no number. */
    private static void numbersWithoutEnd() {
        double endless = Double.POSITIVE_INFINITY;
        for (int type = Op.FLOAT; type <= Op.DOUBLE; type++) {
            dueOf(Op.DIVIDE, type, 1, endless, 0);
            dueTrap(Op.ADD, type, endless, 1);
            dueTrap(Op.SUBTRACT, type, endless, endless);
            dueTrap(Op.MULTIPLY, type, 0, -endless);
            dueTrap(Op.DIVIDE, type, endless, -endless);
            dueTrap(Op.DIVIDE, type, Double.NaN, 0);
            dueOf(Op.ADD, type, Double.NaN, 1, Double.NaN);
            dueOf(Op.EQUAL, type, Double.NaN, Double.NaN, 0);
            FlatModule toInt = converter(type, Op.INT);
            Due.answers("no number as an INT", 0, () -> toInt.run(0, Double.NaN, 0, 0, 2));
        }
    }
}
