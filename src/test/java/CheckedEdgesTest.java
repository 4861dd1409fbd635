/** Promise 5 and what makes a module checked, or not checked any more. */
public final class CheckedEdgesTest {
    public static void main(String[] args) {
        smallestAndLargestAnswers();
        firstFaultOfAll();
        withoutFunctions();
        changedByEachCall();
        notChangedByOtherCalls();
        checkChangesNothingElse();
        faultsMended();
        Due.end();
    }

    private static void smallestAndLargestAnswers() {
        Due.about("10000 * its FUNCTION + 100 * the number of its INSTRUCTION (how many there are, at the end) "
                + "+ FAULT");
        for (int f = 0; f < 4; f++) {
            for (int pairs = 0; pairs <= 20; pairs++) {
                FlatModule module = new FlatModule();
                module.function(f, 0, 0, 0, Op.INT);
                Build.code(module, f, Build.repeat(pairs, Op.BLOCK, Op.NONE, Op.END, 0));
                Due.answers("at the end of " + 2 * pairs + " in " + f, 10000 * f + 200 * pairs + 2, module::check);
                if (pairs < 20) {
                    Build.code(module, f, Op.SET_GLOBAL, 4, Op.CONST_INT, 1);
                    Due.answers("in the middle", 10000 * f + 200 * pairs + 1, module::check);
                }
            }
            FlatModule last = new FlatModule();
            last.function(f, 0, 0, 0, Op.INT);
            Build.code(last, f, Build.join(Build.repeat(19, Op.BLOCK, Op.NONE, Op.END, 0),
                    new int[] {Op.CONST_INT, 1, Op.END, 0}));
            Due.answers("in the 40th of " + f, 10000 * f + 3905, last::check);
        }
    }

    private static void firstFaultOfAll() {
        Due.about("of the first FAULT");
        FlatModule module = new FlatModule();
        for (int f = 3; f >= 0; f--) {
            module.function(f, 0, 0, 0, Op.NONE);
            Build.code(module, f, Build.repeat(f == 0 ? 20 : 1, Op.BLOCK, Op.NONE, Op.END, 0));
        }
        for (int f = 3; f >= 1; f--) {
            Build.code(module, f, Op.DROP, 0, Op.GET, 0, Op.ELSE, 0);
            Due.answers("faults from " + f + " on", 10000 * f + 202, module::check);
        }
        module.erase(0);
        Build.code(module, 0, Build.repeat(40, Op.CONST_INT, 1));
        Due.answers("a late one in the first FUNCTION", 2007, module::check);
    }

    private static void withoutFunctions() {
        Due.about("The module is CHECKED if all FUNCTIONS are without FAULT");
        FlatModule module = new FlatModule();
        Due.answers("not before check()", 0, () -> module.count(1));
        Due.answers("check() of no FUNCTIONS", 0, module::check);
        Due.answers("checked", 1, () -> module.count(1));
        for (int f = 0; f < 4; f++) {
            module.function(f, 0, 0, 0, Op.NONE);
            Due.answers("check() of FUNCTIONS without CODE", 0, module::check);
            Due.answers("checked", 1, () -> module.count(1));
        }
        for (int f = 0; f < 4; f++) {
            FlatModule one = new FlatModule();
            one.function(f, 0, 0, 0, Op.NONE);
            one.function((f + 1) % 4, 0, 0, 0, Op.NONE);
            Build.code(one, f, Op.DROP, 0);
            int faulty = f;
            Due.answers("a FAULT in " + f, 10000 * f + 2, one::check);
            Due.answers("not checked", 0, () -> one.count(1));
            Due.fails("nor run where no FAULT is", Due.STATE, () -> one.run((faulty + 1) % 4, 0, 0, 0, 300));
        }
    }

    private static FlatModule checkedOnes() {
        FlatModule module = Build.simple(Op.NONE, Op.CONST_INT, 5, Op.SET_GLOBAL, 0, Op.CALL, 2);
        module.function(2, 0, 0, 0, Op.NONE);
        module.check();
        module.run(0, 0, 0, 0, 9);
        Due.answers("checked", 1, () -> module.count(1));
        return module;
    }

    private static void notCheckedAnyMore(String what, FlatModule module) {
        Due.answers(what + ": not checked", 0, () -> module.count(1));
        Due.fails(what + ": not run", Due.STATE, () -> module.run(0, 0, 0, 0, 300));
        Due.answers(what + ": check()", 0, module::check);
        Due.answers(what + ": checked again", 1, () -> module.count(1));
        Due.answers(what + ": run again", 0, () -> module.run(0, 0, 0, 0, 300));
    }

    private static void changedByEachCall() {
        Due.about("till one is changed");
        FlatModule made = checkedOnes();
        made.function(3, 0, 0, 0, Op.NONE);
        notCheckedAnyMore("one more FUNCTION", made);
        FlatModule anew = checkedOnes();
        anew.function(0, 0, 0, 0, Op.NONE);
        notCheckedAnyMore("a FUNCTION anew", anew);
        FlatModule same = checkedOnes();
        same.function(2, 0, 0, 0, Op.NONE);
        notCheckedAnyMore("a FUNCTION anew as it was", same);
        FlatModule longer = checkedOnes();
        longer.emit(2, Op.RETURN, 0);
        notCheckedAnyMore("one more INSTRUCTION", longer);
        FlatModule shorter = checkedOnes();
        shorter.erase(0);
        notCheckedAnyMore("CODE erased", shorter);
        FlatModule empty = checkedOnes();
        empty.erase(2);
        notCheckedAnyMore("no CODE erased", empty);
    }

    private static void notChangedByOtherCalls() {
        Due.about("till one is changed");
        FlatModule module = checkedOnes();
        module.global(0);
        module.count(0);
        module.run(0, 0, 0, 0, 300);
        Due.fails("out of fuel", Due.STATE, () -> module.run(0, 0, 0, 0, 1));
        module.check();
        Due.answers("still checked", 1, () -> module.count(1));
        FlatModule trapping = Build.simple(Op.NONE, Op.TRAP, 0);
        trapping.check();
        Due.fails("trap", Due.TRAPPED, () -> trapping.run(0, 0, 0, 0, 300));
        Due.answers("still checked", 1, () -> trapping.count(1));
    }

    private static void checkChangesNothingElse() {
        Due.about("CHECKS the module");
        FlatModule module = checkedOnes();
        String before = Seen.of(module);
        Due.answers("check()", 0, module::check);
        Due.same("all that can be seen", Seen.of(module), before);
        module.emit(2, Op.DROP, 0);
        String changed = Seen.of(module);
        Due.answers("check() with a FAULT", 20002, module::check);
        Due.same("all that can be seen", Seen.of(module), changed);
        Due.answers("the same again", 20002, module::check);
    }

    private static void faultsMended() {
        FlatModule module = Build.simple(Op.INT, Op.BLOCK, Op.INT, Op.CONST_LONG, 1, Op.CONVERT, 4);
        Due.answers("a FRAME is open", 305, module::check);
        module.emit(0, Op.END, 0);
        Due.answers("ended", 0, module::check);
        Due.answers("run", 1, () -> module.run(0, 0, 0, 0, 2));
        module.emit(0, Op.DROP, 0);
        Due.answers("no RESULT", 502, module::check);
        Due.fails("not run as it was before", Due.STATE, () -> module.run(0, 0, 0, 0, 2));
        module.emit(0, Op.CONST_INT, 7);
        Due.answers("mended", 0, module::check);
        Due.answers("run as it is now", 7, () -> module.run(0, 0, 0, 0, 4));
    }
}
