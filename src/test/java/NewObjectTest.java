/** Promise 1: a new object has no functions. */
public final class NewObjectTest {
    public static void main(String[] args) {
        FlatModule module = new FlatModule();
        Due.answers("count(0)", 0, () -> module.count(0));
        Due.answers("count(1)", 0, () -> module.count(1));
        Due.answers("count(2)", 0, () -> module.count(2));
        Due.answers("count(3)", 0, () -> module.count(3));
        for (int f = 0; f < 4; f++) {
            int g = f;
            Due.answers("count of code", 0, () -> module.count(10 + g));
            Due.answers("global", 0, () -> module.global(g));
            Due.fails("emit", Due.BAD, () -> module.emit(g, Op.TRAP, 0));
            Due.fails("erase", Due.BAD, Due.doing(() -> module.erase(g)));
            Due.fails("run", Due.BAD, () -> module.run(g, 0, 0, 0, 1));
        }
        Due.answers("check()", 0, module::check);
        Due.fails("run, checked", Due.BAD, () -> module.run(0, 0, 0, 0, 1));
        objectsShareNothing();
        Due.end();
    }

    private static void objectsShareNothing() {
        FlatModule used = Build.simple(Op.NONE, Op.CONST_INT, 7, Op.SET_GLOBAL, 0);
        used.check();
        used.run(0, 0, 0, 0, 9);
        FlatModule fresh = new FlatModule();
        Due.answers("global of another object", 0, () -> fresh.global(0));
        Due.answers("functions of another object", 0, () -> fresh.count(0));
        Due.answers("fuel of another object", 0, () -> fresh.count(2));
    }
}
