/** Terms: where whole numbers wrap, where fractions trap, what shifts look at, and what casts make of large numbers. */
public final class OutcomeEdgesTest {
    private static final double LIMIT = 1000000000.0;
    private static final double LEAST_INT = Integer.MIN_VALUE;
    private static final double MOST_INT = Integer.MAX_VALUE;
    private static final double LEAST_LONG = Long.MIN_VALUE;
    private static final double MOST_LONG = Long.MAX_VALUE;

    public static void main(String[] args) {
        constants();
        wholesWrap();
        divideAndRestWrap();
        byZero();
        byAlmostZero();
        shifts();
        comparisons();
        choosing();
        outcomesAtTheLimit();
        conversionsAtTheLimit();
        noTrapElsewhere();
        castsOfParameters();
        castsOfConvert();
        results();
        globalsBeforeTraps();
        Due.end();
    }

    private static FlatModule checked(FlatModule module) {
        Due.answers("check()", 0, module::check);
        return module;
    }

    private static FlatModule binary(int op, int type) {
        int result = op == Op.BELOW || op == Op.EQUAL ? Op.INT : type;
        return checked(Build.withLocals(2, 0, Build.types(type, type), result, Op.GET, 0, Op.GET, 1, op, type));
    }

    private static void due(int op, int type, double x, double y, double want) {
        FlatModule module = binary(op, type);
        Due.answers("op " + op + " of type " + type + ": " + x + ", " + y, want, () -> module.run(0, x, y, 0, 3));
    }

    private static void dueTrap(int op, int type, double x, double y) {
        FlatModule module = binary(op, type);
        Due.fails("op " + op + " of type " + type + ": " + x + ", " + y, Due.ARITHMETIC,
                () -> module.run(0, x, y, 0, 3));
    }

    private static FlatModule converter(int from, int to) {
        return checked(Build.withLocals(1, 0, from, to, Op.GET, 0, Op.CONVERT, 4 * from + to));
    }

    private static void dueConverted(int from, int to, double x, double want) {
        FlatModule module = converter(from, to);
        Due.answers(x + " from " + from + " to " + to, want, () -> module.run(0, x, 0, 0, 2));
    }

    private static void dueConvertTrap(int from, int to, double x) {
        FlatModule module = converter(from, to);
        Due.fails(x + " from " + from + " to " + to, Due.ARITHMETIC, () -> module.run(0, x, 0, 0, 2));
    }

    private static void constants() {
        Due.about("CONSTANT: a, in 2 and 3 times 0.125 (in 2 as a FLOAT first)");
        int[] numbers = {Integer.MIN_VALUE, Integer.MIN_VALUE + 1, -16777217, -16777216, -9, -1, 0, 1, 7, 16777215,
            16777216, 16777217, 16777219, Integer.MAX_VALUE - 1, Integer.MAX_VALUE};
        for (int a : numbers) {
            double[] want = {a, a, (float) a / 8, (double) a / 8};
            for (int type = 0; type < 4; type++) {
                FlatModule module = checked(Build.simple(type, type, a));
                double value = want[type];
                Due.answers(a + " of type " + type, value, () -> module.run(0, 0, 0, 0, 1));
            }
        }
        FlatModule most = checked(Build.simple(Op.FLOAT, Op.CONST_FLOAT, Integer.MAX_VALUE));
        Due.answers("rounded up", 268435456.0, () -> most.run(0, 0, 0, 0, 1));
        FlatModule third = checked(Build.simple(Op.FLOAT, Op.CONST_FLOAT, 16777217));
        Due.answers("rounded down", 2097152.0, () -> third.run(0, 0, 0, 0, 1));
    }

    private static void wholesWrap() {
        Due.about("11 ADD, 12 SUBTRACT, 13 MULTIPLY, 14 DIVIDE: two of TYPE a (0 .. 3): one");
        due(Op.ADD, Op.INT, MOST_INT, 0, MOST_INT);
        due(Op.ADD, Op.INT, MOST_INT, 1, LEAST_INT);
        due(Op.ADD, Op.INT, LEAST_INT, -1, MOST_INT);
        due(Op.ADD, Op.INT, LEAST_INT, LEAST_INT, 0);
        due(Op.SUBTRACT, Op.INT, LEAST_INT, 0, LEAST_INT);
        due(Op.SUBTRACT, Op.INT, LEAST_INT, 1, MOST_INT);
        due(Op.SUBTRACT, Op.INT, 0, LEAST_INT, LEAST_INT);
        due(Op.MULTIPLY, Op.INT, 46341, 46341, -2147479015);
        due(Op.MULTIPLY, Op.INT, LEAST_INT, -1, LEAST_INT);
        due(Op.MULTIPLY, Op.INT, 65536, 65536, 0);
        due(Op.ADD, Op.LONG, MOST_INT, 1, 2147483648.0);
        due(Op.ADD, Op.LONG, MOST_LONG, 1, LEAST_LONG);
        due(Op.ADD, Op.LONG, LEAST_LONG, LEAST_LONG, 0);
        due(Op.SUBTRACT, Op.LONG, LEAST_LONG, 1, MOST_LONG);
        due(Op.SUBTRACT, Op.LONG, 0, LEAST_LONG, LEAST_LONG);
        due(Op.MULTIPLY, Op.LONG, 65536, 65536, 4294967296.0);
        due(Op.MULTIPLY, Op.LONG, LEAST_LONG, -1, LEAST_LONG);
        due(Op.MULTIPLY, Op.LONG, 4294967296.0, 4294967296.0, 0);
        due(Op.AND, Op.INT, -1, LEAST_INT, LEAST_INT);
        due(Op.AND, Op.INT, MOST_INT, LEAST_INT, 0);
        due(Op.AND, Op.LONG, -1, LEAST_LONG, LEAST_LONG);
        due(Op.AND, Op.LONG, 4294967296.0, 4294967297.0, 4294967296.0);
    }

    private static void divideAndRestWrap() {
        Due.about("DIVIDE and REST of INT and LONG wrap, towards zero");
        for (int type = 0; type < 2; type++) {
            double least = type == Op.INT ? LEAST_INT : LEAST_LONG;
            due(Op.DIVIDE, type, least, -1, least);
            due(Op.DIVIDE, type, least, 1, least);
            due(Op.REST, type, least, -1, 0);
            due(Op.REST, type, least, 1, 0);
            double[][] rows = {{7, 2, 3, 1}, {-7, 2, -3, -1}, {7, -2, -3, 1}, {-7, -2, 3, -1}, {1, 2, 0, 1},
                {-1, 2, 0, -1}, {0, 5, 0, 0}, {0, -5, 0, 0}, {6, 3, 2, 0}, {-6, 3, -2, 0}};
            for (double[] row : rows) {
                due(Op.DIVIDE, type, row[0], row[1], row[2]);
                due(Op.REST, type, row[0], row[1], row[3]);
            }
        }
        due(Op.DIVIDE, Op.INT, LEAST_INT, LEAST_INT, 1);
        due(Op.DIVIDE, Op.INT, MOST_INT, LEAST_INT, 0);
        due(Op.REST, Op.INT, MOST_INT, LEAST_INT, MOST_INT);
        due(Op.DIVIDE, Op.LONG, LEAST_INT, -1, 2147483648.0);
    }

    private static void byZero() {
        Due.about("By 0 or 0.0 (14, 15)");
        for (int type = 0; type < 4; type++) {
            for (double x : new double[] {0, 1, -1, 1e9, -1e9}) {
                dueTrap(Op.DIVIDE, type, x, 0);
                dueTrap(Op.DIVIDE, type, x, -0.0);
                if (type <= Op.LONG) {
                    dueTrap(Op.REST, type, x, 0);
                }
            }
            due(Op.DIVIDE, type, 0, 1, 0);
            due(Op.DIVIDE, type, 0, -1, 0);
            due(Op.MULTIPLY, type, 1, 0, 0);
        }
    }

    private static void byAlmostZero() {
        Due.about("By 0 or 0.0 (14, 15)");
        dueTrap(Op.DIVIDE, Op.INT, 1, 0.99);
        dueTrap(Op.DIVIDE, Op.LONG, 1, -0.99);
        due(Op.DIVIDE, Op.LONG, 5, 4294967296.0, 0);
        due(Op.REST, Op.LONG, 5, 4294967296.0, 5);
        due(Op.DIVIDE, Op.DOUBLE, 0, Double.MIN_VALUE, 0);
        due(Op.DIVIDE, Op.DOUBLE, Double.MIN_VALUE, -Double.MIN_VALUE, -1);
        due(Op.DIVIDE, Op.FLOAT, 0, Float.MIN_VALUE, 0);
        due(Op.DIVIDE, Op.FLOAT, Float.MIN_VALUE, Float.MIN_VALUE, 1);
        dueTrap(Op.DIVIDE, Op.FLOAT, 0, Double.MIN_VALUE);
    }

    private static void shifts() {
        Due.about("SHIFTS go by the lowest 5 bits (INT; LONG: 6)");
        for (int by = -70; by <= 130; by++) {
            due(Op.SHIFT_LEFT, Op.INT, 5, by, 5 << by);
            due(Op.SHIFT_LEFT, Op.LONG, 5, by, 5L << by);
        }
        due(Op.SHIFT_LEFT, Op.INT, 1, 31, LEAST_INT);
        due(Op.SHIFT_LEFT, Op.INT, 1, 32, 1);
        due(Op.SHIFT_LEFT, Op.INT, 1, LEAST_INT, 1);
        due(Op.SHIFT_LEFT, Op.INT, 1, MOST_INT, LEAST_INT);
        due(Op.SHIFT_LEFT, Op.LONG, 1, 32, 4294967296.0);
        due(Op.SHIFT_LEFT, Op.LONG, 1, 63, LEAST_LONG);
        due(Op.SHIFT_LEFT, Op.LONG, 1, 64, 1);
        due(Op.SHIFT_LEFT, Op.LONG, 1, 4294967296.0, 1);
        due(Op.SHIFT_LEFT, Op.LONG, 1, LEAST_LONG, 1);
    }

    private static void comparisons() {
        Due.about("18 BELOW, 19 EQUAL: two of TYPE a: an INT, 1 or 0");
        double[] around = {-1, 0, 1};
        double[] least = {LEAST_INT, LEAST_LONG, -3e38, -1e300};
        for (int type = 0; type < 4; type++) {
            for (double x : around) {
                for (double y : around) {
                    due(Op.BELOW, type, x, y, x < y ? 1 : 0);
                    due(Op.EQUAL, type, x, y, x == y ? 1 : 0);
                }
                due(Op.BELOW, type, least[type], x, 1);
                due(Op.BELOW, type, x, least[type], 0);
                due(Op.EQUAL, type, x, least[type], 0);
            }
        }
        due(Op.EQUAL, Op.LONG, 4294967296.0, 0, 0);
        due(Op.BELOW, Op.LONG, -4294967296.0, 0, 1);
        due(Op.EQUAL, Op.FLOAT, 16777217, 16777216, 1);
        due(Op.EQUAL, Op.DOUBLE, 16777217, 16777216, 0);
        due(Op.BELOW, Op.DOUBLE, 1, Math.nextUp(1.0), 1);
        due(Op.BELOW, Op.FLOAT, 1, Math.nextUp(1.0), 0);
        due(Op.BELOW, Op.FLOAT, 1, Math.nextUp(1.0f), 1);
        due(Op.EQUAL, Op.FLOAT, 0.0, -0.0, 1);
        due(Op.BELOW, Op.DOUBLE, -0.0, 0.0, 0);
    }

    private static void choosing() {
        Due.about("the first one if that isn't 0, else the second");
        for (int type = 0; type < 4; type++) {
            FlatModule module = checked(Build.withLocals(3, 0, Build.types(type, type, Op.INT), type, Op.GET, 0,
                    Op.GET, 1, Op.GET, 2, Op.CHOOSE, 0));
            for (double by : new double[] {LEAST_INT, -1, 1, 2, MOST_INT}) {
                Due.answers("by " + by, 5, () -> module.run(0, 5, 6, by, 4));
            }
            Due.answers("by 0", 6, () -> module.run(0, 5, 6, 0, 4));
        }
        FlatModule jump = checked(Build.withLocals(1, 0, Op.INT, Op.INT, Op.CONST_INT, 5, Op.GET, 0, Op.JUMP_IF, 0,
                Op.DROP, 0, Op.CONST_INT, 6));
        FlatModule branch = checked(Build.withLocals(1, 0, Op.INT, Op.INT, Op.GET, 0, Op.IF, Op.INT, Op.CONST_INT, 5,
                Op.ELSE, 0, Op.CONST_INT, 6, Op.END, 0));
        for (double by : new double[] {LEAST_INT, -1, 0, 1, 2, MOST_INT}) {
            Due.answers("JUMP IF " + by, by != 0 ? 5 : 6, () -> jump.run(0, by, 0, 0, 9));
            Due.answers("IF " + by, by != 0 ? 5 : 6, () -> branch.run(0, by, 0, 0, 9));
        }
    }

    private static void outcomesAtTheLimit() {
        Due.about("a FLOAT or DOUBLE outcome of 11 to 14");
        for (int type = Op.FLOAT; type <= Op.DOUBLE; type++) {
            double above = type == Op.FLOAT ? Math.nextUp((float) LIMIT) : Math.nextUp(LIMIT);
            for (int sign = -1; sign <= 1; sign += 2) {
                due(Op.ADD, type, sign * LIMIT, 0, sign * LIMIT);
                due(Op.SUBTRACT, type, sign * LIMIT, 0, sign * LIMIT);
                due(Op.SUBTRACT, type, 0, sign * LIMIT, -sign * LIMIT);
                due(Op.MULTIPLY, type, sign * LIMIT, 1, sign * LIMIT);
                due(Op.DIVIDE, type, sign * LIMIT, 1, sign * LIMIT);
                due(Op.ADD, type, sign * LIMIT / 2, sign * LIMIT / 2, sign * LIMIT);
                due(Op.MULTIPLY, type, sign * LIMIT / 2, 2, sign * LIMIT);
                due(Op.DIVIDE, type, sign * LIMIT / 2, 0.5, sign * LIMIT);
                dueTrap(Op.ADD, type, sign * above, 0);
                dueTrap(Op.SUBTRACT, type, sign * above, 0);
                dueTrap(Op.SUBTRACT, type, 0, sign * above);
                dueTrap(Op.MULTIPLY, type, sign * above, 1);
                dueTrap(Op.DIVIDE, type, sign * above, 1);
                dueTrap(Op.DIVIDE, type, sign, 1e-30);
                due(Op.SUBTRACT, type, sign * above, sign * above, 0);
                due(Op.DIVIDE, type, sign * above, above, sign);
            }
        }
        due(Op.SUBTRACT, Op.DOUBLE, Double.MAX_VALUE, Double.MAX_VALUE, 0);
        due(Op.SUBTRACT, Op.DOUBLE, -Double.MAX_VALUE, -Double.MAX_VALUE, 0);
        due(Op.DIVIDE, Op.DOUBLE, -Double.MAX_VALUE, Double.MAX_VALUE, -1);
        dueTrap(Op.ADD, Op.DOUBLE, Double.MAX_VALUE, Double.MAX_VALUE);
        due(Op.SUBTRACT, Op.FLOAT, Float.MAX_VALUE, Float.MAX_VALUE, 0);
        dueTrap(Op.MULTIPLY, Op.FLOAT, Float.MAX_VALUE, -Float.MAX_VALUE);
        Due.about("above 1000000000.0 or below -1000000000.0 (as a DOUBLE)");
        due(Op.ADD, Op.FLOAT, LIMIT, 32, LIMIT);
        dueTrap(Op.ADD, Op.FLOAT, LIMIT, 33);
        dueTrap(Op.ADD, Op.DOUBLE, LIMIT, 32);
        due(Op.SUBTRACT, Op.FLOAT, -LIMIT, 32, -LIMIT);
        dueTrap(Op.SUBTRACT, Op.FLOAT, -LIMIT, 33);
    }

    private static void conversionsAtTheLimit() {
        Due.about("or of CONVERT above 1000000000.0 or below -1000000000.0 (as a DOUBLE): ArithmeticException");
        for (int sign = -1; sign <= 1; sign += 2) {
            for (int from = 0; from < 4; from++) {
                for (int to = Op.FLOAT; to <= Op.DOUBLE; to++) {
                    dueConverted(from, to, sign * LIMIT, sign * LIMIT);
                    dueConvertTrap(from, to, sign * 1000000064.0);
                    dueConvertTrap(from, to, sign * 2e9);
                }
            }
            dueConvertTrap(Op.INT, Op.DOUBLE, sign * 1000000001.0);
            dueConvertTrap(Op.LONG, Op.DOUBLE, sign * 1000000001.0);
            dueConvertTrap(Op.DOUBLE, Op.DOUBLE, sign * Math.nextUp(LIMIT));
            dueConvertTrap(Op.FLOAT, Op.FLOAT, sign * Math.nextUp((float) LIMIT));
            dueConvertTrap(Op.FLOAT, Op.DOUBLE, sign * Math.nextUp((float) LIMIT));
            Due.about("outcome of 11 to 14 or of CONVERT above 1000000000.0 or below -1000000000.0 (as a DOUBLE)");
            for (int from : new int[] {Op.INT, Op.LONG, Op.DOUBLE}) {
                dueConverted(from, Op.FLOAT, sign * 1000000032.0, sign * LIMIT);
                dueConvertTrap(from, Op.FLOAT, sign * 1000000033.0);
            }
            dueConvertTrap(Op.DOUBLE, Op.FLOAT, sign * Math.nextUp(1000000032.0));
        }
        dueConvertTrap(Op.DOUBLE, Op.FLOAT, 1e300);
        dueConvertTrap(Op.LONG, Op.FLOAT, MOST_LONG);
        dueConvertTrap(Op.LONG, Op.DOUBLE, LEAST_LONG);
    }

    private static void noTrapElsewhere() {
        Due.about("TRAPS");
        due(Op.ADD, Op.INT, LIMIT, LIMIT, 2e9);
        due(Op.MULTIPLY, Op.LONG, LIMIT, LIMIT, 1e18);
        due(Op.BELOW, Op.FLOAT, 1e30, 1e31, 1);
        due(Op.EQUAL, Op.DOUBLE, 1e300, 1e300, 1);
        for (int from = Op.FLOAT; from <= Op.DOUBLE; from++) {
            dueConverted(from, Op.INT, 2147483648.0, MOST_INT);
            dueConverted(from, Op.LONG, 2147483648.0, 2147483648.0);
        }
        dueConverted(Op.INT, Op.LONG, MOST_INT, MOST_INT);
        for (int type = Op.FLOAT; type <= Op.DOUBLE; type++) {
            FlatModule moved = Build.withLocals(1, 1, Build.types(type, type), type, Op.GET, 0, Op.KEEP, 1,
                    Op.SET_GLOBAL, type, Op.GET_GLOBAL, type, Op.GET, 1, Op.CONST_INT, 0, Op.CHOOSE, 0, Op.CALL, 1,
                    Op.RETURN, 0);
            moved.function(1, 1, 0, type, type);
            Build.code(moved, 1, Op.BLOCK, type, Op.GET, 0, Op.CONST_INT, 1, Op.JUMP_IF, 0, Op.END, 0);
            checked(moved);
            Due.answers("moved", 4294967296.0, () -> moved.run(0, 4294967296.0, 0, 0, 99));
            int g = type;
            Due.answers("kept", 4294967296.0, () -> moved.global(g));
        }
    }

    private static void castsOfParameters() {
        Due.about("PARAMETERS being x, y, z as they are needed, as Java's casts from double do");
        double[] given = {0, -0.0, 0.999, -0.999, 1.5, -1.5, MOST_INT, MOST_INT + 1, MOST_INT + 0.999, LEAST_INT,
            LEAST_INT - 1, LEAST_INT - 0.999, 9.2e18, MOST_LONG, 9.3e18, LEAST_LONG, -9.3e18, 1e300, -1e300, 16777217,
            3.4e38, 3.5e38, -3.5e38, 1e-46, 0.1};
        for (double x : given) {
            double[] want = {(int) x, (long) x, (float) x, x};
            for (int type = 0; type < 4; type++) {
                double value = want[type];
                FlatModule first = checked(Build.withLocals(1, 0, type, type, Op.GET, 0));
                Due.answers(x + " as x of type " + type, value, () -> first.run(0, x, 7, 7, 1));
                FlatModule second = checked(Build.withLocals(2, 0, Build.types(3, type), type, Op.GET, 1));
                Due.answers(x + " as y of type " + type, value, () -> second.run(0, 7, x, 7, 1));
                FlatModule third = checked(Build.withLocals(3, 0, Build.types(3, 3, type), type, Op.GET, 2));
                Due.answers(x + " as z of type " + type, value, () -> third.run(0, 7, 7, x, 1));
            }
        }
        Due.about("as they are needed");
        for (int n = 0; n <= 3; n++) {
            for (int local = 0; local < n + 3; local++) {
                FlatModule module = checked(Build.withLocals(n, 3, -1, Op.DOUBLE, Op.GET, local));
                double want = local < n ? local + 1.5 : 0;
                Due.answers("local " + local + " behind " + n, want, () -> module.run(0, 1.5, 2.5, 3.5, 1));
                Due.answers("and again", want, () -> module.run(0, 1.5, 2.5, 3.5, 1));
            }
        }
    }

    private static void castsOfConvert() {
        Due.about("20 CONVERT: of TYPE a / 4 (a 0 .. 15) to TYPE a % 4, as Java's casts do");
        dueConverted(Op.LONG, Op.INT, MOST_INT, MOST_INT);
        dueConverted(Op.LONG, Op.INT, MOST_INT + 1, LEAST_INT);
        dueConverted(Op.LONG, Op.INT, LEAST_INT - 1, MOST_INT);
        dueConverted(Op.LONG, Op.INT, 4294967296.0, 0);
        dueConverted(Op.LONG, Op.INT, MOST_LONG, -1);
        dueConverted(Op.LONG, Op.INT, LEAST_LONG, 0);
        dueConverted(Op.INT, Op.LONG, LEAST_INT, LEAST_INT);
        dueConverted(Op.INT, Op.FLOAT, 16777217, 16777216);
        dueConverted(Op.INT, Op.DOUBLE, 16777217, 16777217);
        dueConverted(Op.LONG, Op.FLOAT, -16777219, -16777220);
        dueConverted(Op.DOUBLE, Op.FLOAT, 0.1, 0.1f);
        dueConverted(Op.DOUBLE, Op.FLOAT, 1e-46, 0);
        dueConverted(Op.FLOAT, Op.DOUBLE, 0.1, 0.1f);
        for (int from = Op.FLOAT; from <= Op.DOUBLE; from++) {
            for (int to = Op.INT; to <= Op.LONG; to++) {
                dueConverted(from, to, 0.875, 0);
                dueConverted(from, to, -0.875, 0);
                dueConverted(from, to, 1.875, 1);
                dueConverted(from, to, -1.875, -1);
                double most = to == Op.INT ? MOST_INT : MOST_LONG;
                double least = to == Op.INT ? LEAST_INT : LEAST_LONG;
                dueConverted(from, to, most + 1, most);
                dueConverted(from, to, 1e30, most);
                dueConverted(from, to, least, least);
                dueConverted(from, to, -1e30, least);
            }
        }
        dueConverted(Op.DOUBLE, Op.INT, MOST_INT - 0.5, MOST_INT - 1);
        dueConverted(Op.DOUBLE, Op.INT, LEAST_INT - 0.5, LEAST_INT);
    }

    private static void results() {
        Due.about("Answers the RESULT, as a double (a LONG cast so), 0.0 without");
        FlatModule one = checked(Build.withLocals(2, 0, Build.types(Op.LONG, Op.LONG), Op.LONG, Op.GET, 0, Op.GET, 1,
                Op.ADD, Op.LONG));
        Due.answers("2^53", 9007199254740992.0, () -> one.run(0, 9007199254740991.0, 1, 0, 3));
        Due.answers("2^53 + 1", 9007199254740992.0, () -> one.run(0, 9007199254740992.0, 1, 0, 3));
        Due.answers("2^53 + 3", 9007199254740996.0, () -> one.run(0, 9007199254740992.0, 3, 0, 3));
        Due.answers("the largest", 9223372036854775808.0, () -> one.run(0, LEAST_LONG, -1, 0, 3));
        FlatModule none = checked(Build.withLocals(3, 3, -1, Op.NONE, Op.GET, 0, Op.SET_GLOBAL, 3));
        Due.answers("none", 0, () -> none.run(0, 5, 6, 7, 2));
        FlatModule left = checked(Build.simple(Op.NONE, Op.CONST_DOUBLE, 9, Op.RETURN, 0));
        Due.answers("none, with a value left behind", 0, () -> left.run(0, 5, 6, 7, 2));
    }

    private static void globalsBeforeTraps() {
        Due.about("GLOBALS set before a TRAP, or without FUEL, stay so");
        int[][] traps = {{Op.TRAP, 0}, {0, 1, 0, 0, Op.DIVIDE, 0, Op.DROP, 0}, {1, 1, 1, 0, Op.REST, 1, Op.DROP, 0},
            {2, 1, 2, 0, Op.DIVIDE, 2, Op.DROP, 0}, {3, 1, 3, 0, Op.DIVIDE, 3, Op.DROP, 0},
            {3, 600000, 3, 600000, Op.MULTIPLY, 3, Op.DROP, 0}, {0, 2000000000, Op.CONVERT, 2, Op.DROP, 0}};
        for (int[] trap : traps) {
            FlatModule module = checked(Build.simple(Op.NONE, Build.join(new int[] {0, 1, Op.SET_GLOBAL, 0, 1, 2,
                Op.SET_GLOBAL, 1}, trap, new int[] {2, 8, Op.SET_GLOBAL, 2, 3, 8, Op.SET_GLOBAL, 3})));
            Due.fails("the trap", trap[0] == Op.TRAP ? Due.TRAPPED : Due.ARITHMETIC,
                    () -> module.run(0, 0, 0, 0, 300));
            Due.answers("set before", 1, () -> module.global(0));
            Due.answers("set before", 2, () -> module.global(1));
            Due.answers("not set behind", 0, () -> module.global(2));
            Due.answers("not set behind", 0, () -> module.global(3));
            Due.answers("fuel", 4 + (trap.length == 2 ? 1 : trap.length / 2 - 1), () -> module.count(2));
            Due.answers("still checked", 1, () -> module.count(1));
        }
    }
}
