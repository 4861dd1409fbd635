/** Promise 3: emit() adds a last instruction. */
public final class EmitTest {
    public static void main(String[] args) {
        badComesFirst();
        anyOpAndNumber();
        noRoom();
        upToForty();
        everyOp();
        addedLast();
        changesWhatWasChecked();
        Due.end();
    }

    private static void badComesFirst() {
        FlatModule module = Build.simple(Op.NONE, Build.repeat(40, Op.CONST_INT, 1));
        Due.fails("op -1", Due.BAD, () -> module.emit(0, -1, 0));
        Due.fails("op 31", Due.BAD, () -> module.emit(0, 31, 0));
        Due.fails("function -1", Due.BAD, () -> module.emit(-1, 0, 0));
        Due.fails("function 4", Due.BAD, () -> module.emit(4, 0, 0));
        Due.fails("a function that isn't there", Due.BAD, () -> module.emit(1, 0, 0));
        Due.answers("nothing was added", 40, () -> module.count(10));
    }

    private static void anyOpAndNumber() {
        FlatModule module = Build.simple(Op.NONE);
        for (int op = 0; op <= 30; op++) {
            int a = op % 2 == 0 ? Integer.MIN_VALUE + op : Integer.MAX_VALUE - op;
            int o = op;
            Due.answers("emit of op " + op, op + 1, () -> module.emit(0, o, a));
        }
    }

    private static void noRoom() {
        FlatModule module = Build.simple(Op.NONE, Build.repeat(20, Op.CONST_INT, 1, Op.DROP, 0));
        Due.answers("checks", 0, module::check);
        Due.fails("the 41st", Due.STATE, () -> module.emit(0, Op.TRAP, 0));
        Due.answers("still 40", 40, () -> module.count(10));
        Due.answers("still checked", 1, () -> module.count(1));
        Due.answers("runs without the 41st", 0, () -> module.run(0, 0, 0, 0, 40));
        module.function(1, 0, 0, 0, Op.NONE);
        Due.answers("room in another function", 1, () -> module.emit(1, Op.TRAP, 0));
    }

    private static void upToForty() {
        Due.about("40 are there: no room. Answers how many there are");
        for (int f = 0; f < 4; f++) {
            int number = f;
            FlatModule module = new FlatModule();
            module.function(f, 0, 0, 0, Op.NONE);
            for (int way = 0; way < 3; way++) {
                Due.answers("none at first", 0, () -> module.count(10 + number));
                for (int many = 1; many <= 40; many++) {
                    Due.answers("the next", many, () -> module.emit(number, Op.BLOCK, Op.NONE));
                }
                Due.fails("the 41st", Due.STATE, () -> module.emit(number, Op.BLOCK, Op.NONE));
                Due.fails("once more", Due.STATE, () -> module.emit(number, Op.TRAP, 0));
                Due.answers("40 are there", 40, () -> module.count(10 + number));
                if (way == 0) {
                    module.erase(f);
                } else {
                    module.function(f, 0, 0, 0, Op.NONE);
                }
            }
        }
    }

    private static void everyOp() {
        Due.about("op 0 .. 30, any a");
        for (int op = -3; op <= 33; op++) {
            for (int a : new int[] {Integer.MIN_VALUE, -1, 0, 40, Integer.MAX_VALUE}) {
                int o = op;
                boolean allowed = op >= 0 && op <= 30;
                FlatModule module = Build.simple(Op.NONE);
                Due.same("emit of " + op + " with " + a, Due.outcome(() -> module.emit(0, o, a)),
                        allowed ? "1.0" : Due.BAD);
                Due.answers("then there are", allowed ? 1 : 0, () -> module.count(10));
            }
        }
    }

    private static void addedLast() {
        FlatModule module = Build.simple(Op.INT, Op.CONST_INT, 10, Op.CONST_INT, 4);
        Due.answers("third", 3, () -> module.emit(0, Op.SUBTRACT, Op.INT));
        module.check();
        Due.answers("10 - 4", 6, () -> module.run(0, 0, 0, 0, 9));
    }

    private static void changesWhatWasChecked() {
        FlatModule module = Build.simple(Op.NONE);
        module.check();
        Due.fails("a bad op", Due.BAD, () -> module.emit(0, 99, 0));
        Due.answers("still checked", 1, () -> module.count(1));
        module.emit(0, Op.TRAP, 0);
        Due.answers("not checked", 0, () -> module.count(1));
        Due.fails("not to be run", Due.STATE, () -> module.run(0, 0, 0, 0, 1));
    }
}
