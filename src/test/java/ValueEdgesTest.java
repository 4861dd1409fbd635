import java.util.ArrayList;
import java.util.Arrays;
import java.util.List;

/**
 * Terms: each instruction with just the values that it takes, with one too few, with one that is of another type, and
 * with one more, which it leaves alone.
 */
public final class ValueEdgesTest {
    /** An instruction of a function with the given result; its locals 0 to 3 have the types 0 to 3. */
    private record Taker(String name, int op, int a, int[] takes, int puts, int result) {
        Taker(String name, int op, int a, int puts, int... takes) {
            this(name, op, a, takes, puts, Op.NONE);
        }

        @Override
        public String toString() {
            return name + " " + a + " of " + Arrays.toString(takes);
        }

        boolean leaves() {
            return op == Op.JUMP || op == Op.RETURN;
        }

        /** Inside one more frame: a jump to the code itself goes one frame further. */
        Taker inside() {
            return new Taker(name, op, op == Op.JUMP || op == Op.JUMP_IF ? a + 1 : a, takes, puts, result);
        }
    }

    public static void main(String[] args) {
        for (Taker taker : takers()) {
            enough(taker);
            tooFew(taker);
            notInThisFrame(taker);
            ofAnotherType(taker);
            theLatestFirst(taker);
            deadCodeHasThem(taker);
        }
        chooseTakesTwoOfOneType();
        Due.end();
    }

    private static List<Taker> takers() {
        List<Taker> all = new ArrayList<>();
        for (int type = 0; type < 4; type++) {
            all.add(new Taker("SET", Op.SET, type, Op.NONE, type));
            all.add(new Taker("KEEP", Op.KEEP, type, type, type));
            all.add(new Taker("SET GLOBAL", Op.SET_GLOBAL, type, Op.NONE, type));
            all.add(new Taker("CHOOSE", Op.CHOOSE, 0, type, type, type, Op.INT));
            for (int op : new int[] {Op.ADD, Op.SUBTRACT, Op.MULTIPLY, Op.DIVIDE}) {
                all.add(new Taker("op " + op, op, type, type, type, type));
            }
            all.add(new Taker("BELOW", Op.BELOW, type, Op.INT, type, type));
            all.add(new Taker("EQUAL", Op.EQUAL, type, Op.INT, type, type));
            for (int to = 0; to < 4; to++) {
                all.add(new Taker("CONVERT", Op.CONVERT, 4 * type + to, to, type));
            }
            all.add(new Taker("JUMP", Op.JUMP, 0, new int[] {type}, Op.NONE, type));
            all.add(new Taker("RETURN", Op.RETURN, 0, new int[] {type}, Op.NONE, type));
            all.add(new Taker("JUMP IF", Op.JUMP_IF, 0, new int[] {type, Op.INT}, type, type));
        }
        for (int type = 0; type < 2; type++) {
            for (int op : new int[] {Op.REST, Op.AND, Op.SHIFT_LEFT}) {
                all.add(new Taker("op " + op, op, type, type, type, type));
            }
        }
        all.add(new Taker("JUMP IF, nothing needed", Op.JUMP_IF, 0, Op.NONE, Op.INT));
        all.add(new Taker("CALL", Op.CALL, 1, Op.DOUBLE, Op.FLOAT, Op.LONG, Op.INT));
        return all;
    }

    private static int check(Taker taker, int[]... parts) {
        FlatModule module = Build.withLocals(3, 1, Build.types(0, 1, 2, 3), taker.result(), Build.join(parts));
        module.function(1, 3, 0, Build.types(Op.FLOAT, Op.LONG, Op.INT), Op.DOUBLE);
        Build.code(module, 1, Op.CONST_DOUBLE, 1);
        return module.check();
    }

    private static int[] values(int... types) {
        int[] code = new int[2 * types.length];
        for (int i = 0; i < types.length; i++) {
            code[2 * i] = types[i];
            code[2 * i + 1] = 1;
        }
        return code;
    }

    private static int[] from(int first, Taker taker) {
        return values(Arrays.copyOfRange(taker.takes(), first, taker.takes().length));
    }

    private static int[] op(Taker taker) {
        return new int[] {taker.op(), taker.a()};
    }

    /** Takes what was put, as just that type, and ends the code well. */
    private static int[] rest(Taker taker) {
        int[] taken = taker.puts() == Op.NONE ? new int[0] : new int[] {Op.SET_GLOBAL, taker.puts()};
        int[] end = taker.result() == Op.NONE || taker.leaves() ? new int[0] : values(taker.result());
        return Build.join(taken, end);
    }

    private static void enough(Taker taker) {
        Due.about("with what they take off the stack, the latest last, and put on it");
        Due.answers(taker + " with just its values", 0, () -> check(taker, from(0, taker), op(taker), rest(taker)));
        if (!taker.leaves()) {
            int length = 1 + taker.takes().length + 1 + rest(taker).length / 2;
            Due.answers(taker + " with one more, left alone", 100 * length + 4,
                    () -> check(taker, values(Op.LONG), from(0, taker), op(taker), rest(taker)));
            int dropped = taker.result() == Op.NONE ? 0 : 1;
            Due.answers(taker + " puts no more than it says", 100 * (length - 1 + dropped) + 2,
                    () -> check(taker, from(0, taker), op(taker), rest(taker), Build.repeat(2, Op.DROP, 0)));
        } else {
            Due.answers(taker + " with one more, left behind", 0,
                    () -> check(taker, values(Op.LONG), from(0, taker), op(taker)));
        }
    }

    private static void tooFew(Taker taker) {
        Due.about("A value that is taken isn't there");
        for (int missing = 1; missing <= taker.takes().length; missing++) {
            int first = missing;
            Due.answers(taker + " without " + missing, 100 * (taker.takes().length - missing) + 2,
                    () -> check(taker, from(first, taker), op(taker), rest(taker)));
        }
    }

    private static void notInThisFrame(Taker taker) {
        Due.about("none in this FRAME since it was opened");
        for (int outside = 1; outside <= taker.takes().length; outside++) {
            int first = outside;
            int[] below = values(Arrays.copyOf(taker.takes(), outside));
            for (int opener : new int[] {Op.BLOCK, Op.LOOP}) {
                Due.answers(taker + " with " + outside + " outside", 100 * (taker.takes().length + 1) + 2,
                        () -> check(taker, below, new int[] {opener, Op.NONE}, from(first, taker),
                                op(taker.inside())));
            }
            Due.answers(taker + " with " + outside + " outside an IF", 100 * (taker.takes().length + 2) + 2,
                    () -> check(taker, below, new int[] {Op.CONST_INT, 1, Op.IF, Op.NONE}, from(first, taker),
                            op(taker.inside())));
            Due.answers(taker + " with " + outside + " outside an ELSE", 100 * (taker.takes().length + 3) + 2,
                    () -> check(taker, below, new int[] {Op.CONST_INT, 1, Op.IF, Op.NONE, Op.ELSE, 0},
                            from(first, taker), op(taker.inside())));
        }
    }

    private static void ofAnotherType(Taker taker) {
        Due.about("or isn't of the TYPE: 3");
        for (int place = 0; place < taker.takes().length; place++) {
            for (int type = 0; type < 4; type++) {
                if (type != taker.takes()[place]) {
                    int[] types = taker.takes().clone();
                    types[place] = type;
                    Due.answers(taker + " with type " + type + " at " + place, 100 * types.length + 3,
                            () -> check(taker, values(types), op(taker), rest(taker)));
                }
            }
        }
    }

    private static void theLatestFirst(Taker taker) {
        Due.about("then values, the latest first");
        int latest = taker.takes()[taker.takes().length - 1];
        if (taker.takes().length > 1) {
            for (int type = 0; type < 4; type++) {
                if (type != latest) {
                    int[] wrong = values(type);
                    Due.answers(taker + " with the latest alone, of type " + type, 103,
                            () -> check(taker, wrong, op(taker), rest(taker)));
                }
            }
        }
    }

    private static void deadCodeHasThem(Taker taker) {
        Due.about("has as many values of any TYPE as are taken");
        for (int missing = 0; missing <= taker.takes().length; missing++) {
            int first = missing;
            Due.answers(taker + " behind TRAP, without " + missing, 0,
                    () -> check(taker, new int[] {Op.TRAP, 0}, from(first, taker), op(taker), rest(taker)));
        }
        for (int place = 0; place < taker.takes().length; place++) {
            int[] types = taker.takes().clone();
            types[place] = (types[place] + 1) % 4;
            Due.answers(taker + " behind TRAP, another type at " + place, 100 * types.length + 103,
                    () -> check(taker, new int[] {Op.TRAP, 0}, values(types), op(taker), rest(taker)));
        }
    }

    private static void chooseTakesTwoOfOneType() {
        Due.about("CHOOSE: two of one TYPE and an INT");
        for (int first = 0; first < 4; first++) {
            for (int second = 0; second < 4; second++) {
                FlatModule module = Build.simple(first, first, 1, second, 1, Op.CONST_INT, 1, Op.CHOOSE, 0);
                Due.answers("of " + first + " and " + second, first == second ? 0 : 303, module::check);
            }
        }
        Due.about("DROP any value");
        for (int type = 0; type < 4; type++) {
            Due.answers("of type " + type, 0, Build.simple(Op.NONE, type, 1, Op.DROP, 0)::check);
        }
        Due.answers("of none", 2, Build.simple(Op.NONE, Op.DROP, 0)::check);
        Due.answers("of one outside", 202, Build.simple(Op.NONE, 0, 1, Op.BLOCK, Op.NONE, Op.DROP, 0)::check);
    }
}
