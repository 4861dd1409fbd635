/** Terms: which numbers an instruction may have, the last one that is allowed and the first that isn't. */
public final class NumberEdgesTest {
    private static final int[] FREE = {Integer.MIN_VALUE, -1, 0, 1, 31, Integer.MAX_VALUE};

    public static void main(String[] args) {
        numbersOfTypes();
        numbersOfLocals();
        numbersOfGlobals();
        numbersOfFrames();
        numbersOfFunctions();
        numbersThatAreFree();
        Due.end();
    }

    private static void numbersOfTypes() {
        Due.about("two of TYPE a (0 .. 3)");
        for (int op : new int[] {Op.ADD, Op.SUBTRACT, Op.MULTIPLY, Op.DIVIDE, Op.BELOW, Op.EQUAL}) {
            allowedUpTo(3, op);
        }
        Due.about("of TYPE a (0, 1)");
        for (int op : new int[] {Op.REST, Op.AND, Op.SHIFT_LEFT}) {
            allowedUpTo(1, op);
        }
        Due.about("CONVERT: of TYPE a / 4 (a 0 .. 15) to TYPE a % 4");
        allowedUpTo(15, Op.CONVERT);
        Due.about("21 BLOCK, 22 LOOP, with TYPE a or 4 (what they give), 23 IF, likewise");
        for (int op : new int[] {Op.BLOCK, Op.LOOP, Op.IF}) {
            allowedUpTo(4, op);
        }
    }

    /** Each number from 0 to the largest one makes faultless code; the next ones on both sides are FAULT 1. */
    private static void allowedUpTo(int most, int op) {
        for (int a = 0; a <= most; a++) {
            Due.answers("op " + op + " with " + a, 0, Build.simple(Op.NONE, Build.join(before(op, a), new int[] {op, a},
                    after(op, a)))::check);
        }
        for (int a : new int[] {-1, most + 1, Integer.MIN_VALUE, Integer.MAX_VALUE}) {
            for (int like = 0; like <= most; like++) {
                int[] values = before(op, like);
                Due.answers("op " + op + " with " + a + " behind the values of " + like, 50 * values.length + 1,
                        Build.simple(Op.NONE, Build.join(values, new int[] {op, a}, after(op, like)))::check);
            }
            Due.answers("op " + op + " with " + a + " behind no values", 1, Build.simple(Op.NONE, op, a)::check);
        }
    }

    private static int[] before(int op, int a) {
        if (op == Op.CONVERT) {
            return new int[] {a / 4, 1};
        }
        if (op == Op.BLOCK || op == Op.LOOP) {
            return new int[0];
        }
        return op == Op.IF ? new int[] {Op.CONST_INT, 1} : new int[] {a, 1, a, 1};
    }

    private static int[] after(int op, int a) {
        int[] drop = {Op.DROP, 0};
        if (op < Op.BLOCK) {
            return drop;
        }
        if (a == Op.NONE) {
            return new int[] {Op.END, 0};
        }
        int[] value = {a, 1};
        int[] other = op == Op.IF ? new int[] {Op.ELSE, 0, a, 1} : new int[0];
        return Build.join(value, other, new int[] {Op.END, 0}, drop);
    }

    private static void numbersOfLocals() {
        Due.about("LOCALS (at most 3 more, with a TYPE each), numbered on from the PARAMETERS");
        for (int n = 0; n <= 3; n++) {
            for (int m = 0; m <= 3; m++) {
                for (int a : new int[] {Integer.MIN_VALUE, -1, 0, n + m - 1, n + m, 6, Integer.MAX_VALUE}) {
                    boolean there = a >= 0 && a < n + m;
                    String what = "local " + a + " of " + n + " and " + m;
                    Due.answers("GET " + what, there ? 0 : 1,
                            Build.withLocals(n, m, 0, Op.NONE, Op.GET, a, Op.DROP, 0)::check);
                    Due.answers("SET " + what, there ? 0 : 101,
                            Build.withLocals(n, m, 0, Op.NONE, Op.CONST_INT, 1, Op.SET, a)::check);
                    Due.answers("KEEP " + what, there ? 0 : 101,
                            Build.withLocals(n, m, 0, Op.NONE, Op.CONST_INT, 1, Op.KEEP, a, Op.DROP, 0)::check);
                }
            }
        }
    }

    private static void numbersOfGlobals() {
        Due.about("GLOBALS 0 .. 3, of the TYPE of their number each");
        for (int g = 0; g <= 3; g++) {
            Due.answers("GET GLOBAL " + g, 0, Build.simple(g, Op.GET_GLOBAL, g)::check);
            Due.answers("SET GLOBAL " + g, 0, Build.simple(Op.NONE, g, 1, Op.SET_GLOBAL, g)::check);
        }
        for (int g : new int[] {-1, 4, Integer.MIN_VALUE, Integer.MAX_VALUE}) {
            Due.answers("GET GLOBAL " + g, 1, Build.simple(Op.NONE, Op.GET_GLOBAL, g, Op.DROP, 0)::check);
            for (int type = 0; type <= 3; type++) {
                Due.answers("SET GLOBAL " + g, 101, Build.simple(Op.NONE, type, 1, Op.SET_GLOBAL, g)::check);
            }
        }
    }

    private static void numbersOfFrames() {
        Due.about("JUMP to the a-th FRAME from the innermost, 0, on, the CODE itself being the outermost");
        for (int open = 0; open <= 8; open++) {
            int[] frames = Build.repeat(open, open % 2 == 0 ? Op.BLOCK : Op.LOOP, Op.NONE);
            int[] ends = Build.repeat(open, Op.END, 0);
            for (int a = 0; a <= open; a++) {
                String what = a + " of " + open + " frames";
                Due.answers("JUMP to " + what, 0,
                        Build.simple(Op.NONE, Build.join(frames, new int[] {Op.JUMP, a}, ends))::check);
                Due.answers("JUMP IF to " + what, 0, Build.simple(Op.NONE,
                        Build.join(frames, new int[] {Op.CONST_INT, 1, Op.JUMP_IF, a}, ends))::check);
            }
            for (int a : new int[] {-1, open + 1, Integer.MIN_VALUE, Integer.MAX_VALUE}) {
                String what = a + " of " + open + " frames";
                Due.answers("JUMP to " + what, 100 * open + 1,
                        Build.simple(Op.NONE, Build.join(frames, new int[] {Op.JUMP, a}, ends))::check);
                Due.answers("JUMP IF to " + what, 100 * open + 101, Build.simple(Op.NONE,
                        Build.join(frames, new int[] {Op.CONST_INT, 1, Op.JUMP_IF, a}, ends))::check);
            }
        }
        Due.answers("a frame that was ended is none", 201,
                Build.simple(Op.NONE, Op.BLOCK, Op.NONE, Op.END, 0, Op.JUMP, 1)::check);
    }

    private static void numbersOfFunctions() {
        Due.about("a FUNCTION that isn't there (in CALLS): FAULT 1");
        for (int there = 0; there <= 3; there++) {
            for (int a : new int[] {Integer.MIN_VALUE, -1, 0, 1, 2, 3, 4, Integer.MAX_VALUE}) {
                FlatModule module = new FlatModule();
                module.function(there, 0, 0, 0, Op.NONE);
                Build.code(module, there, Op.BLOCK, Op.NONE, Op.CALL, a, Op.END, 0);
                Due.answers("CALL of " + a + " in " + there, a == there ? 0 : 10000 * there + 101, module::check);
            }
        }
        FlatModule module = Build.simple(Op.NONE, Op.CALL, 3);
        Due.answers("not there yet", 1, module::check);
        module.function(3, 0, 0, 0, Op.NONE);
        Due.answers("there, without code", 0, module::check);
        module.erase(3);
        Due.answers("there still, erased", 0, module::check);
    }

    private static void numbersThatAreFree() {
        Due.about("op 0 .. 30, any a");
        for (int a : FREE) {
            for (int type = 0; type < 4; type++) {
                Due.answers("a constant's number", 0, Build.simple(type, type, a)::check);
            }
            Due.answers("DROP, CHOOSE", 0, Build.simple(Op.NONE, Op.CONST_INT, a, Op.CONST_INT, a, Op.CONST_INT, a,
                    Op.CHOOSE, a, Op.DROP, a)::check);
            Due.answers("ELSE, END", 0, Build.simple(Op.NONE, Op.CONST_INT, a, Op.IF, Op.NONE, Op.ELSE, a,
                    Op.END, a)::check);
            Due.answers("RETURN", 0, Build.simple(Op.NONE, Op.RETURN, a)::check);
            Due.answers("TRAP", 0, Build.simple(Op.NONE, Op.TRAP, a)::check);
        }
    }
}
