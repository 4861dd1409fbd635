/** Terms: just enough fuel and one too little, eight calls and one more, and what is left behind then. */
public final class FuelEdgesTest {
    public static void main(String[] args) {
        leastAndMostFuel();
        eachInstructionTakesOne();
        someTakeNone();
        elseFromAbove();
        noneLeftAtTheEnd();
        fuelInCalls();
        mostCalls();
        callsOneAfterAnother();
        ninthCall();
        fullWindows();
        Due.end();
    }

    private static FlatModule checked(FlatModule module) {
        Due.answers("check()", 0, module::check);
        return module;
    }

    /** It runs with so much fuel and no less. */
    private static void dueFuel(String what, int fuel, FlatModule module, double x) {
        Due.answers(what + ": enough", 0, Due.doing(() -> module.run(0, x, 0, 0, fuel)));
        Due.answers(what + ": used", fuel, () -> module.count(2));
        if (fuel > 1) {
            Due.fails(what + ": one too little", Due.STATE, () -> module.run(0, x, 0, 0, fuel - 1));
            Due.answers(what + ": used until then", fuel - 1, () -> module.count(2));
        }
        Due.answers(what + ": more than enough", 0, Due.doing(() -> module.run(0, x, 0, 0, 300)));
        Due.answers(what + ": used of more", fuel, () -> module.count(2));
    }

    /** Takes 5 fuel for each of its turns, at least one. */
    private static FlatModule turns() {
        return checked(Build.withLocals(1, 0, Op.INT, Op.NONE, Op.LOOP, Op.NONE, Op.GET, 0, Op.CONST_INT, 1,
                Op.SUBTRACT, Op.INT, Op.KEEP, 0, Op.JUMP_IF, 0, Op.END, 0));
    }

    private static void leastAndMostFuel() {
        Due.about("with so much FUEL (1 .. 300)");
        FlatModule one = checked(Build.simple(Op.INT, Op.CONST_INT, 8));
        Due.fails("0", Due.BAD, () -> one.run(0, 0, 0, 0, 0));
        Due.answers("1", 8, () -> one.run(0, 0, 0, 0, 1));
        Due.answers("300", 8, () -> one.run(0, 0, 0, 0, 300));
        Due.fails("301", Due.BAD, () -> one.run(0, 0, 0, 0, 301));
        Due.fails("the least int", Due.BAD, () -> one.run(0, 0, 0, 0, Integer.MIN_VALUE));
        Due.fails("the largest int", Due.BAD, () -> one.run(0, 0, 0, 0, Integer.MAX_VALUE));
        FlatModule turns = turns();
        dueFuel("59 turns", 295, turns, 59);
        dueFuel("60 turns", 300, turns, 60);
        Due.fails("61 turns", Due.STATE, () -> turns.run(0, 61, 0, 0, 300));
        Due.answers("all of it", 300, () -> turns.count(2));
    }

    private static void eachInstructionTakesOne() {
        Due.about("Each INSTRUCTION done takes one FUEL");
        int[][] rows = {{0, 1}, {1, 1}, {2, 1}, {3, 1}, {Op.GET, 0}, {0, 1, Op.SET, 0}, {0, 1, Op.KEEP, 0},
            {Op.GET_GLOBAL, 2}, {2, 1, Op.SET_GLOBAL, 2}, {0, 1, Op.DROP, 0}, {3, 1, 3, 1, 0, 1, Op.CHOOSE, 0},
            {0, 1, 0, 1, Op.ADD, 0}, {1, 1, 1, 1, Op.SUBTRACT, 1}, {2, 1, 2, 1, Op.MULTIPLY, 2},
            {3, 1, 3, 1, Op.DIVIDE, 3}, {0, 1, 0, 1, Op.REST, 0}, {1, 1, 1, 1, Op.AND, 1},
            {0, 1, 0, 1, Op.SHIFT_LEFT, 0}, {2, 1, 2, 1, Op.BELOW, 2}, {3, 1, 3, 1, Op.EQUAL, 3},
            {0, 1, Op.CONVERT, 0}, {Op.JUMP, 0}, {0, 0, Op.JUMP_IF, 0}, {0, 1, Op.JUMP_IF, 0}, {Op.RETURN, 0},
            {Op.CALL, 1}};
        for (int[] row : rows) {
            FlatModule module = Build.withLocals(1, 0, Op.INT, Op.NONE, Build.join(row, new int[] {Op.RETURN, 0}));
            module.function(1, 0, 0, 0, Op.NONE);
            int last = row[row.length - 2];
            boolean leaves = last == Op.JUMP || last == Op.RETURN || last == Op.JUMP_IF && row[1] != 0;
            dueFuel("op " + last, row.length / 2 + (leaves ? 0 : 1), checked(module), 0);
        }
        FlatModule trap = checked(Build.simple(Op.NONE, Op.TRAP, 0));
        Due.fails("TRAP", Due.TRAPPED, () -> trap.run(0, 0, 0, 0, 1));
        Due.answers("is done", 1, () -> trap.count(2));
        FlatModule late = checked(Build.simple(Op.NONE, Op.CONST_INT, 1, Op.TRAP, 0));
        Due.fails("TRAP without fuel", Due.STATE, () -> late.run(0, 0, 0, 0, 1));
        Due.fails("TRAP with fuel", Due.TRAPPED, () -> late.run(0, 0, 0, 0, 2));
        FlatModule byZero = checked(Build.simple(Op.INT, 0, 1, 0, 0, Op.DIVIDE, 0));
        Due.fails("by 0 without fuel", Due.STATE, () -> byZero.run(0, 0, 0, 0, 2));
        Due.fails("by 0 with fuel", Due.ARITHMETIC, () -> byZero.run(0, 0, 0, 0, 3));
        Due.answers("is done", 3, () -> byZero.count(2));
    }

    private static void someTakeNone() {
        Due.about("but 21, 22 and 25 none");
        dueFuel("BLOCK and END", 1, checked(Build.simple(Op.NONE, Op.BLOCK, Op.NONE, Op.END, 0, Op.RETURN, 0)), 0);
        dueFuel("LOOP and END", 1, checked(Build.simple(Op.NONE, Op.LOOP, Op.NONE, Op.END, 0, Op.RETURN, 0)), 0);
        FlatModule only = checked(Build.simple(Op.NONE, Build.join(Build.repeat(8, Op.BLOCK, Op.NONE),
                Build.repeat(8, Op.END, 0), Build.repeat(8, Op.LOOP, Op.NONE), Build.repeat(8, Op.END, 0))));
        Due.answers("nothing else", 0, () -> only.run(0, 0, 0, 0, 1));
        Due.answers("takes nothing", 0, () -> only.count(2));
        FlatModule empty = checked(Build.simple(Op.NONE));
        Due.answers("no CODE", 0, () -> empty.run(0, 0, 0, 0, 1));
        Due.answers("takes nothing", 0, () -> empty.count(2));
        Due.answers("is a call", 1, () -> empty.count(3));
        FlatModule again = checked(Build.withLocals(1, 0, Op.INT, Op.NONE, Op.LOOP, Op.NONE, Op.BLOCK, Op.NONE,
                Op.END, 0, Op.GET, 0, Op.CONST_INT, 0, Op.SET, 0, Op.JUMP_IF, 0, Op.END, 0));
        dueFuel("a LOOP that is jumped to", 8, again, 1);
    }

    private static void elseFromAbove() {
        Due.about("ELSE one when it's come to from above (leaving the IF)");
        FlatModule module = checked(Build.withLocals(1, 0, Op.INT, Op.NONE, Op.GET, 0, Op.IF, Op.NONE, Op.ELSE, 0,
                Op.END, 0));
        dueFuel("from above", 3, module, 1);
        dueFuel("from the IF", 2, module, 0);
        FlatModule filled = checked(Build.withLocals(1, 0, Op.INT, Op.NONE, Op.GET, 0, Op.IF, Op.LONG,
                Op.CONST_LONG, 1, Op.ELSE, 0, Op.CONST_LONG, 2, Op.END, 0, Op.SET_GLOBAL, 1));
        dueFuel("from above, with a value", 5, filled, 1);
        dueFuel("from the IF, with a value", 4, filled, 0);
        FlatModule jumping = checked(Build.withLocals(1, 0, Op.INT, Op.NONE, Op.GET, 0, Op.IF, Op.NONE, Op.JUMP, 0,
                Op.ELSE, 0, Op.END, 0));
        dueFuel("passed by a jump", 3, jumping, 1);
        FlatModule none = checked(Build.withLocals(1, 0, Op.INT, Op.NONE, Op.GET, 0, Op.IF, Op.NONE, Op.END, 0));
        dueFuel("no ELSE, gone in", 2, none, 1);
        dueFuel("no ELSE, passed by", 2, none, 0);
    }

    private static void noneLeftAtTheEnd() {
        Due.about("None left: OUT OF FUEL");
        FlatModule ends = checked(Build.simple(Op.INT, Op.BLOCK, Op.INT, Op.CONST_INT, 3, Op.END, 0, Op.BLOCK, Op.NONE,
                Op.LOOP, Op.NONE, Op.END, 0, Op.END, 0));
        Due.answers("what takes none needs none", 3, () -> ends.run(0, 0, 0, 0, 1));
        for (int fuel = 1; fuel <= 300; fuel++) {
            int given = fuel;
            FlatModule endless = Build.simple(Op.NONE, Op.LOOP, Op.NONE, Op.GET_GLOBAL, 0, Op.CONST_INT, 1,
                    Op.ADD, Op.INT, Op.SET_GLOBAL, 0, Op.JUMP, 0, Op.END, 0);
            endless.check();
            Due.about("None left: OUT OF FUEL");
            Due.fails("a loop without end, " + fuel, Due.STATE, () -> endless.run(0, 0, 0, 0, given));
            Due.answers("used", fuel, () -> endless.count(2));
            Due.about("GLOBALS set before a TRAP, or without FUEL, stay so");
            Due.answers("set with " + fuel, (fuel + 1) / 5, () -> endless.global(0));
        }
    }

    private static void fuelInCalls() {
        Due.about("Each INSTRUCTION done takes one FUEL");
        FlatModule module = Build.simple(Op.INT, Op.CALL, 1, Op.CALL, 1, Op.ADD, Op.INT);
        module.function(1, 0, 0, 0, Op.INT);
        Build.code(module, 1, Op.BLOCK, Op.INT, Op.CONST_INT, 1, Op.END, 0, Op.CALL, 2, Op.ADD, Op.INT);
        module.function(2, 0, 0, 0, Op.INT);
        Build.code(module, 2, Op.CONST_INT, 2, Op.RETURN, 0);
        checked(module);
        Due.answers("enough", 6, () -> module.run(0, 0, 0, 0, 13));
        Due.answers("used", 13, () -> module.count(2));
        for (int fuel = 1; fuel < 13; fuel++) {
            int given = fuel;
            Due.fails("too little: " + fuel, Due.STATE, () -> module.run(0, 0, 0, 0, given));
            Due.answers("used until then", fuel, () -> module.count(2));
            Due.answers("calls until then", fuel < 3 ? 2 : 3, () -> module.count(3));
        }
    }

    /** Calls itself x times, one within the other, and counts the calls in GLOBAL 0. */
    private static FlatModule nested() {
        return checked(Build.withLocals(1, 0, Op.INT, Op.NONE, Op.GET_GLOBAL, 0, Op.CONST_INT, 1, Op.ADD, Op.INT,
                Op.SET_GLOBAL, 0, Op.GET, 0, Op.IF, Op.NONE, Op.GET, 0, Op.CONST_INT, 1, Op.SUBTRACT, Op.INT,
                Op.CALL, 0, Op.END, 0));
    }

    private static void mostCalls() {
        Due.about("CALLS within one another above 8 (the first is one): the same");
        FlatModule module = nested();
        int sum = 0;
        for (int more = 0; more <= 7; more++) {
            int given = more;
            Due.answers(more + " more", 0, () -> module.run(0, given, 0, 0, 300));
            Due.answers("the deepest", more + 1, () -> module.count(3));
            sum += more + 1;
            Due.answers("all done", sum, () -> module.global(0));
        }
        for (int more : new int[] {8, 9, 1000}) {
            Due.fails(more + " more", Due.STATE, () -> module.run(0, more, 0, 0, 300));
            Due.answers("the deepest", 8, () -> module.count(3));
            Due.answers("used until then, the CALL too", 80, () -> module.count(2));
            sum += 8;
            Due.answers("eight were begun", sum, () -> module.global(0));
        }
        Due.answers("none of them is left open", 0, () -> module.run(0, 7, 0, 0, 300));
        FlatModule round = new FlatModule();
        for (int f = 0; f < 4; f++) {
            round.function(f, 0, 0, 0, Op.NONE);
            Build.code(round, f, Op.CALL, (f + 1) % 4);
        }
        checked(round);
        for (int f = 0; f < 4; f++) {
            int first = f;
            Due.fails("round and round", Due.STATE, () -> round.run(first, 0, 0, 0, 300));
            Due.answers("the deepest", 8, () -> round.count(3));
            Due.answers("used", 8, () -> round.count(2));
        }
    }

    private static void callsOneAfterAnother() {
        Due.about("CALLS within one another above 8");
        FlatModule module = Build.simple(Op.NONE, Build.repeat(40, Op.CALL, 3));
        module.function(3, 0, 0, 0, Op.NONE);
        Build.code(module, 3, Op.CALL, 2, Op.CALL, 2);
        module.function(2, 0, 0, 0, Op.NONE);
        checked(module);
        Due.answers("40 of them", 0, () -> module.run(0, 0, 0, 0, 120));
        Due.answers("the deepest", 3, () -> module.count(3));
    }

    private static void ninthCall() {
        Due.about("What throws changes nothing, but run() what it did before");
        FlatModule module = checked(Build.simple(Op.NONE, Op.GET_GLOBAL, 3, Op.CONST_DOUBLE, 8, Op.ADD, Op.DOUBLE,
                Op.SET_GLOBAL, 3, Op.CALL, 0, Op.CONST_LONG, 1, Op.SET_GLOBAL, 1));
        Due.fails("without end", Due.STATE, () -> module.run(0, 0, 0, 0, 300));
        Due.answers("set before", 8, () -> module.global(3));
        Due.answers("not set behind", 0, () -> module.global(1));
        Due.answers("still checked", 1, () -> module.count(1));
        Due.answers("its code is there", 7, () -> module.count(10));
    }

    /** Eight calls with 6 locals and up to 20 values each: what a call holds is not touched by the calls in it. */
    private static void fullWindows() {
        Due.about("CALLS within one another above 8");
        for (int kept = 1; kept <= 8; kept++) {
            int[] values = Build.repeat(17, Op.GET, 0);
            int[] inner = {Op.GET, 0, Op.IF, Op.INT, Op.GET, 0, Op.CONST_INT, 1, Op.SUBTRACT, Op.INT, Op.CONST_INT, 90,
                Op.CONST_INT, 91, Op.CALL, 0, Op.ELSE, 0, Op.CONST_INT, 0, Op.END, 0, Op.SET, 5};
            int[] drops = Build.repeat(kept - 1, Op.DROP, 0);
            int[] sum = {Op.GET, 5, Op.ADD, Op.INT, Op.RETURN, 0};
            FlatModule module = checked(Build.withLocals(3, 3, 0, Op.INT, Build.join(values, inner, drops, sum)));
            Due.answers("the value " + kept + " from above", 7 + 6 + 5 + 4 + 3 + 2 + 1,
                    () -> module.run(0, 7, 0, 0, 300));
            Due.answers("the deepest", 8, () -> module.count(3));
        }
    }
}
