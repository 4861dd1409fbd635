/** Promise 4: erase() takes a function's code away and leaves the rest of it. */
public final class EraseTest {
    public static void main(String[] args) {
        FlatModule module = new FlatModule();
        Due.fails("erase(-1)", Due.BAD, Due.doing(() -> module.erase(-1)));
        Due.fails("erase(4)", Due.BAD, Due.doing(() -> module.erase(4)));
        Due.fails("erase of none", Due.BAD, Due.doing(() -> module.erase(2)));
        module.function(2, 1, 0, Op.DOUBLE, Op.DOUBLE);
        module.function(1, 0, 0, 0, Op.NONE);
        Build.code(module, 1, Build.repeat(3, Op.BLOCK, Op.NONE, Op.END, 0));
        Build.code(module, 2, Build.repeat(40, Op.TRAP, 0));
        Due.answers("check()", 0, module::check);
        Due.fails("erase of none again", Due.BAD, Due.doing(() -> module.erase(0)));
        Due.answers("still checked", 1, () -> module.count(1));

        Due.answers("erase(2)", 0, Due.doing(() -> module.erase(2)));
        Due.answers("not checked", 0, () -> module.count(1));
        Due.answers("no code", 0, () -> module.count(12));
        Due.answers("the other one's code", 6, () -> module.count(11));
        Due.answers("both are there", 2, () -> module.count(0));
        Due.answers("its result is wanted", 20002, module::check);
        Due.answers("room again", 1, () -> module.emit(2, Op.GET, 0));
        Due.answers("check() of the new code", 0, module::check);
        Due.answers("parameter and result are as before", 0.625, () -> module.run(2, 0.625, 0, 0, 1));
        globalsStay();
        emptyAndFull();
        Due.end();
    }

    private static void globalsStay() {
        FlatModule module = Build.simple(Op.NONE, Op.CONST_LONG, 8, Op.SET_GLOBAL, 1);
        module.check();
        module.run(0, 0, 0, 0, 5);
        module.erase(0);
        Due.answers("global after erase", 8, () -> module.global(1));
        Due.answers("fuel after erase", 2, () -> module.count(2));
    }

    private static void emptyAndFull() {
        Due.about("FUNCTION f has no CODE");
        for (int f = 0; f < 4; f++) {
            int number = f;
            FlatModule module = new FlatModule();
            Due.fails("not there yet", Due.BAD, Due.doing(() -> module.erase(number)));
            module.function(f, 2, 1, Build.types(Op.LONG, Op.FLOAT, Op.DOUBLE), Op.FLOAT);
            Due.answers("of one without CODE", 0, Due.doing(() -> module.erase(number)));
            Due.answers("there still", 1, () -> module.count(0));
            Build.code(module, f, Build.repeat(40, Op.TRAP, 0));
            Due.answers("of a full one", 0, Due.doing(() -> module.erase(number)));
            Due.answers("twice", 0, Due.doing(() -> module.erase(number)));
            Due.answers("no CODE", 0, () -> module.count(10 + number));
            Due.answers("the RESULT is as before", 10000 * f + 2, module::check);
            Build.code(module, f, Op.GET, 2, Op.DROP, 0, Op.GET, 0, Op.DROP, 0, Op.GET, 1);
            Due.answers("PARAMETERS and LOCALS are as before", 0, module::check);
            Due.answers("and run so", 1.25, () -> module.run(number, 7.5, 1.25, 9, 5));
            Build.code(module, f, Op.DROP, 0, Op.GET, 3);
            Due.answers("and no more of them", 10000 * f + 601, module::check);
        }
    }
}
