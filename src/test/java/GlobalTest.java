/** Promise 7: global() tells a global as a double. */
public final class GlobalTest {
    public static void main(String[] args) {
        badNumbers();
        eachHasTheTypeOfItsNumber();
        valuesAsDoubles();
        stayFromRunToRun();
        stayBeforeTrapsAndWithoutFuel();
        Due.end();
    }

    private static void badNumbers() {
        FlatModule module = new FlatModule();
        Due.fails("global(-1)", Due.BAD, () -> module.global(-1));
        Due.fails("global(4)", Due.BAD, () -> module.global(4));
        Due.answers("global(3)", 0, () -> module.global(3));
    }

    private static void eachHasTheTypeOfItsNumber() {
        for (int g = 0; g < 4; g++) {
            for (int type = 0; type < 4; type++) {
                FlatModule set = Build.simple(Op.NONE, type, 1, Op.SET_GLOBAL, g);
                Due.answers("set global " + g + " to type " + type, g == type ? 0 : 103, set::check);
                FlatModule get = Build.simple(type, Op.GET_GLOBAL, g);
                Due.answers("get global " + g + " as type " + type, g == type ? 0 : 103, get::check);
            }
        }
    }

    private static void valuesAsDoubles() {
        FlatModule module = Build.withLocals(2, 0, Build.types(Op.LONG, Op.DOUBLE), Op.NONE,
                Op.CONST_INT, Integer.MIN_VALUE, Op.SET_GLOBAL, 0, Op.GET, 0, Op.CONST_LONG, 1, Op.ADD, Op.LONG,
                Op.SET_GLOBAL, 1, Op.CONST_FLOAT, 16777217, Op.SET_GLOBAL, 2, Op.GET, 1, Op.SET_GLOBAL, 3);
        Due.answers("check()", 0, module::check);
        module.run(0, 9007199254740992.0, -0.1, 0, 99);
        Due.answers("INT", -2147483648.0, () -> module.global(0));
        Due.answers("LONG, cast", 9007199254740992.0, () -> module.global(1));
        Due.answers("FLOAT", 2097152.0, () -> module.global(2));
        Due.answers("DOUBLE", -0.1, () -> module.global(3));
    }

    private static void stayFromRunToRun() {
        FlatModule module = Build.simple(Op.INT, Op.GET_GLOBAL, 0, Op.CONST_INT, 5, Op.ADD, Op.INT, Op.SET_GLOBAL, 0,
                Op.GET_GLOBAL, 0);
        module.check();
        Due.answers("first run", 5, () -> module.run(0, 0, 0, 0, 9));
        Due.answers("second run", 10, () -> module.run(0, 0, 0, 0, 9));
        Due.answers("global", 10, () -> module.global(0));
        module.function(0, 0, 0, 0, Op.NONE);
        Due.answers("global of a changed module", 10, () -> module.global(0));
        Due.answers("global of another number", 0, () -> module.global(1));
    }

    private static void stayBeforeTrapsAndWithoutFuel() {
        FlatModule module = Build.simple(Op.NONE, Op.CONST_INT, 1, Op.SET_GLOBAL, 0, Op.CONST_LONG, 2,
                Op.SET_GLOBAL, 1, Op.TRAP, 0);
        module.check();
        Due.fails("run without fuel for all", Due.STATE, () -> module.run(0, 0, 0, 0, 3));
        Due.answers("global 0", 1, () -> module.global(0));
        Due.answers("global 1, not reached", 0, () -> module.global(1));
        Due.fails("run into the trap", Due.TRAPPED, () -> module.run(0, 0, 0, 0, 5));
        Due.answers("global 1", 2, () -> module.global(1));
    }
}
