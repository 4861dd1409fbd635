/** Promise 8: count() tells of functions, checking, fuel, calls and code. */
public final class CountTest {
    public static void main(String[] args) {
        otherNumbers();
        everyNumberInEveryState();
        functions();
        checked();
        fuelAndCalls();
        Due.end();
    }

    private static void otherNumbers() {
        FlatModule module = new FlatModule();
        int[] others = {-1, 4, 5, 9, 14, 15, 100, -10, Integer.MIN_VALUE, Integer.MAX_VALUE, Integer.MIN_VALUE + 9,
            Integer.MIN_VALUE + 10};
        for (int what : others) {
            Due.answers("count(" + what + ")", -1, () -> module.count(what));
        }
    }

    private static void everyNumberInEveryState() {
        Due.about("FUNCTIONS (0), 1 if CHECKED, else 0 (1), FUEL used by the latest run (2), the deepest CALLS in it "
                + "(3), INSTRUCTIONS of FUNCTION what - 10 (10 .. 13), 0 for none; else -1");
        FlatModule module = new FlatModule();
        dueCounts(module, 0, 0, 0, 0, 0, 0, 0, 0);
        module.function(2, 0, 0, 0, Op.NONE);
        dueCounts(module, 1, 0, 0, 0, 0, 0, 0, 0);
        Build.code(module, 2, Build.repeat(40, Op.TRAP, 0));
        dueCounts(module, 1, 0, 0, 0, 0, 0, 40, 0);
        module.check();
        dueCounts(module, 1, 1, 0, 0, 0, 0, 40, 0);
        Due.fails("trap", Due.TRAPPED, () -> module.run(2, 0, 0, 0, 300));
        dueCounts(module, 1, 1, 1, 1, 0, 0, 40, 0);
        module.function(0, 0, 0, 0, Op.NONE);
        Build.code(module, 0, Op.CALL, 2);
        dueCounts(module, 2, 0, 1, 1, 1, 0, 40, 0);
        module.check();
        dueCounts(module, 2, 1, 1, 1, 1, 0, 40, 0);
        Due.fails("trap in a call", Due.TRAPPED, () -> module.run(0, 0, 0, 0, 300));
        dueCounts(module, 2, 1, 2, 2, 1, 0, 40, 0);
        module.erase(2);
        dueCounts(module, 2, 0, 2, 2, 1, 0, 0, 0);
    }

    /** Every number from -3 to 17: all but those of the document are -1. */
    private static void dueCounts(FlatModule module, int... want) {
        int[] known = {0, 1, 2, 3, 10, 11, 12, 13};
        for (int what = -3; what <= 17; what++) {
            int due = -1;
            for (int i = 0; i < known.length; i++) {
                due = known[i] == what ? want[i] : due;
            }
            int number = what;
            Due.answers("count(" + what + ")", due, () -> module.count(number));
        }
    }

    private static void functions() {
        FlatModule module = new FlatModule();
        for (int f = 3; f >= 0; f--) {
            module.function(f, 0, 0, 0, Op.NONE);
            Build.code(module, f, Build.repeat(f + 1, Op.BLOCK, Op.NONE));
            int made = 4 - f;
            int g = f;
            Due.answers("functions", made, () -> module.count(0));
            Due.answers("code of " + f, f + 1, () -> module.count(10 + g));
        }
        module.function(3, 1, 1, 0, Op.INT);
        Due.answers("functions, one anew", 4, () -> module.count(0));
        Due.answers("code of it", 0, () -> module.count(13));
    }

    private static void checked() {
        FlatModule module = Build.simple(Op.INT);
        Due.answers("before check", 0, () -> module.count(1));
        module.check();
        Due.answers("after a fault", 0, () -> module.count(1));
        module.emit(0, Op.CONST_INT, 1);
        Due.answers("mended, but not checked", 0, () -> module.count(1));
        module.check();
        Due.answers("after check", 1, () -> module.count(1));
        module.run(0, 0, 0, 0, 1);
        module.global(0);
        Due.answers("after run", 1, () -> module.count(1));
        module.erase(0);
        Due.answers("after erase", 0, () -> module.count(1));
    }

    private static void fuelAndCalls() {
        FlatModule module = Build.withLocals(1, 0, Op.INT, Op.NONE, Op.GET, 0, Op.IF, Op.NONE, Op.CALL, 1, Op.END, 0);
        module.function(1, 0, 0, 0, Op.NONE);
        Build.code(module, 1, Op.CALL, 2, Op.CALL, 2);
        module.function(2, 0, 0, 0, Op.NONE);
        module.check();
        module.run(0, 1, 0, 0, 99);
        Due.answers("fuel", 5, () -> module.count(2));
        Due.answers("deepest calls", 3, () -> module.count(3));
        module.run(0, 0, 0, 0, 99);
        Due.answers("fuel of the latest run", 2, () -> module.count(2));
        Due.answers("deepest calls of the latest run", 1, () -> module.count(3));
        Due.fails("no fuel for the last call", Due.STATE, () -> module.run(0, 1, 0, 0, 4));
        Due.answers("all the fuel", 4, () -> module.count(2));
        Due.answers("deepest calls until then", 3, () -> module.count(3));
        Due.fails("a bad run", Due.BAD, () -> module.run(0, 0, 0, 0, 301));
        Due.answers("fuel after a bad run", 4, () -> module.count(2));
        module.erase(2);
        Due.fails("a run that isn't checked", Due.STATE, () -> module.run(0, 0, 0, 0, 1));
        Due.answers("fuel after it", 4, () -> module.count(2));
        Due.answers("calls after it", 3, () -> module.count(3));
        module.check();
        module.run(2, 0, 0, 0, 1);
        Due.answers("a run of nothing takes no fuel", 0, () -> module.count(2));
        Due.answers("but is a call", 1, () -> module.count(3));
    }
}
