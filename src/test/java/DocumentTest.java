import java.lang.reflect.Method;
import java.util.Arrays;
import java.util.TreeSet;

/**
 * Goes through the document from its first line up to "Not promised", sentence by sentence, and leaves none out: the
 * words must stand there in just this order, and some answers are compared for each. The edges are in other tests.
 */
public final class DocumentTest {
    public static void main(String[] args) {
        whatItIs();
        face();
        types();
        functionsAndGlobals();
        constantsAndPlaces();
        computing();
        frames();
        leaving();
        checkingNumbersAndValues();
        checkingJumpsAndEnds();
        checkingTheRest();
        running();
        trapping();
        exceptions();
        promisesOneToFour();
        promisesFiveAndSix();
        promisesSevenAndEight();
        Document.goOn("## Not promised");
        Due.end();
    }

    private static FlatModule checked(FlatModule module) {
        Due.answers("check()", 0, module::check);
        return module;
    }

    /** What check() tells of code without parameters, but with a local of each type. */
    private static void fault(int want, int result, int... code) {
        Due.answers(Arrays.toString(code), want, Build.withLocals(0, 3, 0b100100, result, code)::check);
    }

    private static void answer(double want, int result, int... code) {
        FlatModule module = checked(Build.withLocals(0, 3, 0b100100, result, code));
        Due.answers(Arrays.toString(code), want, () -> module.run(0, 0, 0, 0, 300));
    }

    private static void throwing(String exception, int result, int... code) {
        FlatModule module = checked(Build.withLocals(0, 3, 0b100100, result, code));
        Due.fails(Arrays.toString(code), exception, () -> module.run(0, 0, 0, 0, 300));
    }

    private static void whatItIs() {
        Document.goOn("# FlatModule ## What it is");
        Document.goOn("A module of functions in structured stack code, with whole numbers and fractions of two sizes "
                + "each: code is checked so that every value has its type wherever one comes from, made into flat "
                + "code for numbered registers, and run with fuel, calls, globals and traps.");
        FlatModule module = Build.withLocals(1, 0, Op.INT, Op.DOUBLE, Op.GET, 0, Op.IF, Op.FLOAT, Op.CONST_FLOAT, 4,
                Op.ELSE, 0, Op.CALL, 1, Op.CONVERT, 4 * Op.LONG + Op.FLOAT, Op.END, 0,
                Op.CONVERT, 4 * Op.FLOAT + Op.DOUBLE);
        module.function(1, 0, 0, 0, Op.LONG);
        Build.code(module, 1, Op.CONST_LONG, 7, Op.SET_GLOBAL, 1, Op.GET_GLOBAL, 1);
        checked(module);
        Due.answers("from one branch", 0.5, () -> module.run(0, 1, 0, 0, 9));
        Due.answers("from the other", 7, () -> module.run(0, 0, 0, 0, 9));
        Document.goOn("An object is used for at most 512 calls after it has been made; what later calls answer is "
                + "free.");
        FlatModule used = new FlatModule();
        for (int call = 1; call <= 512; call++) {
            Due.answers("call " + call, 0, used::check);
        }
    }

    private static void face() {
        Document.goOn("## The public face");
        TreeSet<String> said = new TreeSet<>();
        for (String part : Document.upTo("## Terms").split("[{};]")) {
            said.add(part.strip().replaceAll("(int|double) \\w+(?=[,)])", "$1"));
        }
        TreeSet<String> there = new TreeSet<>(Arrays.asList("", "public final class FlatModule"));
        there.add(FlatModule.class.getConstructors()[0].toString());
        for (Method method : FlatModule.class.getDeclaredMethods()) {
            if (method.toString().startsWith("public ")) {
                there.add(method.toString().replace("FlatModule.", "").replace("java.lang.", "").replace(",", ", "));
            }
        }
        Due.same("the face", there.toString(), said.toString());
        Document.goOn("## Terms");
    }

    private static void types() {
        Document.goOn("TYPES: 0 INT, 1 LONG, 2 FLOAT, 3 DOUBLE.");
        double[] want = {2147483647.0, 5000000001.0, 5000000000.0, 5000000001.5};
        for (int type = 0; type < 4; type++) {
            FlatModule module = checked(Build.withLocals(1, 0, type, type, Op.GET, 0));
            Due.answers("TYPE " + type, want[type], () -> module.run(0, 5000000001.5, 0, 0, 1));
        }
    }

    private static void functionsAndGlobals() {
        Document.goOn("FUNCTIONS 0 .. 3 are none at first,");
        FlatModule module = new FlatModule();
        for (int f = -1; f <= 4; f++) {
            int number = f;
            Due.fails("FUNCTION " + f, Due.BAD, Due.doing(() -> module.erase(number)));
        }
        Document.goOn("or have PARAMETERS (at most 3, with a TYPE each),");
        FlatModule three = checked(Build.withLocals(3, 0, 0b000111, Op.LONG, Op.GET, 0, Op.DROP, 0, Op.GET, 2,
                Op.DROP, 0, Op.GET, 1));
        Due.answers("the second of three", 6, () -> three.run(0, 5.5, 6.5, 7.5, 9));
        Due.fails("four", Due.BAD, Due.doing(() -> module.function(0, 4, 0, 0, 0)));
        Document.goOn("a RESULT's TYPE (4: none),");
        answer(5, Op.INT, Op.CONST_INT, 5);
        fault(103, Op.LONG, Op.CONST_INT, 5);
        fault(104, Op.NONE, Op.CONST_INT, 5);
        Document.goOn("LOCALS (at most 3 more, with a TYPE each), numbered on from the PARAMETERS,");
        FlatModule six = Build.withLocals(3, 3, 0b111001000000, Op.DOUBLE, Op.GET, 5);
        Due.answers("the last of six", 0, six::check);
        Due.fails("four more", Due.BAD, Due.doing(() -> module.function(0, 3, 4, 0, 0)));
        Document.goOn("and CODE, at most 40 INSTRUCTIONS, an OP and a number a.");
        FlatModule full = checked(Build.simple(Op.NONE, Build.repeat(20, Op.CONST_INT, 9, Op.SET_GLOBAL, 0)));
        Due.fails("one more", Due.STATE, () -> full.emit(0, Op.RETURN, 0));
        Due.answers("all are run", 0, () -> full.run(0, 0, 0, 0, 40));
        Document.goOn("GLOBALS 0 .. 3, of the TYPE of their number each, are 0 at first.");
        for (int g = 0; g < 4; g++) {
            int number = g;
            Due.answers("GLOBAL " + g, 0, () -> module.global(number));
            answer(0, g, Op.GET_GLOBAL, g);
            fault(103, (g + 1) % 4, Op.GET_GLOBAL, g);
        }
    }

    private static void constantsAndPlaces() {
        Document.goOn("INSTRUCTIONS, with what they take off the stack, the latest last, and put on it:");
        answer(6, Op.INT, Op.CONST_INT, 10, Op.CONST_INT, 4, Op.SUBTRACT, Op.INT);
        Document.goOn("0 INT, 1 LONG, 2 FLOAT, 3 DOUBLE CONSTANT: a, in 2 and 3 times 0.125 (in 2 as a FLOAT first).");
        double[] want = {16777219, 16777219, 2097152.5, 2097152.375};
        for (int type = 0; type < 4; type++) {
            answer(want[type], type, type, 16777219);
            answer(type < Op.FLOAT ? -3 : -0.375, type, type, -3);
        }
        Document.goOn("4 GET a LOCAL (or PARAMETER) a;");
        FlatModule get = checked(Build.withLocals(1, 1, 0b1111, Op.DOUBLE, Op.GET, 0, Op.GET, 1, Op.SUBTRACT, 3));
        Due.answers("both", 2.5, () -> get.run(0, 2.5, 9, 9, 3));
        Document.goOn("5 SET it: a value of its TYPE;");
        answer(8, Op.LONG, Op.CONST_LONG, 8, Op.SET, 1, Op.GET, 1);
        fault(103, Op.NONE, Op.CONST_INT, 8, Op.SET, 1);
        Document.goOn("6 KEEP: as SET, but the value stays, too.");
        answer(16, Op.LONG, Op.CONST_LONG, 8, Op.KEEP, 1, Op.GET, 1, Op.ADD, Op.LONG);
        fault(103, Op.NONE, Op.CONST_INT, 8, Op.KEEP, 1);
        Document.goOn("7 GET GLOBAL a, 8 SET it.");
        answer(0.25, Op.FLOAT, Op.CONST_FLOAT, 2, Op.SET_GLOBAL, 2, Op.GET_GLOBAL, 2);
        Document.goOn("9 DROP any value.");
        answer(1, Op.INT, 0, 1, 0, 2, Op.DROP, 0, 1, 2, Op.DROP, 0, 2, 2, Op.DROP, 0, 3, 2, Op.DROP, 0);
        Document.goOn("10 CHOOSE: two of one TYPE and an INT: the first one if that isn't 0, else the second.");
        answer(11, Op.LONG, Op.CONST_LONG, 11, Op.CONST_LONG, 22, Op.CONST_INT, -1, Op.CHOOSE, 0);
        answer(22, Op.LONG, Op.CONST_LONG, 11, Op.CONST_LONG, 22, Op.CONST_INT, 0, Op.CHOOSE, 0);
        fault(303, Op.LONG, Op.CONST_INT, 11, Op.CONST_LONG, 22, Op.CONST_INT, 0, Op.CHOOSE, 0);
    }

    private static void computing() {
        Document.goOn("11 ADD, 12 SUBTRACT, 13 MULTIPLY, 14 DIVIDE: two of TYPE a (0 .. 3): one.");
        for (int type = 0; type < 4; type++) {
            double unit = type < Op.FLOAT ? 1 : 0.125;
            answer(56 * unit, type, type, 48, type, 8, Op.ADD, type);
            answer(40 * unit, type, type, 48, type, 8, Op.SUBTRACT, type);
            answer(384 * unit * unit, type, type, 48, type, 8, Op.MULTIPLY, type);
            answer(6, type, type, 48, type, 8, Op.DIVIDE, type);
        }
        Document.goOn("15 REST: two of TYPE a (0, 1): one.");
        answer(3, Op.INT, 0, 11, 0, 4, Op.REST, 0);
        answer(3, Op.LONG, 1, 11, 1, 4, Op.REST, 1);
        fault(201, Op.FLOAT, 2, 11, 2, 4, Op.REST, 2);
        Document.goOn("16 AND, 17 SHIFT LEFT: of TYPE a (0, 1).");
        answer(8, Op.INT, 0, 12, 0, 10, Op.AND, 0);
        answer(8, Op.LONG, 1, 12, 1, 10, Op.AND, 1);
        answer(48, Op.INT, 0, 12, 0, 2, Op.SHIFT_LEFT, 0);
        answer(12884901888.0, Op.LONG, 1, 12, 1, 30, Op.SHIFT_LEFT, 1);
        fault(201, Op.DOUBLE, 3, 11, 3, 4, Op.AND, 3);
        fault(201, Op.DOUBLE, 3, 11, 3, 4, Op.SHIFT_LEFT, 3);
        Document.goOn("18 BELOW, 19 EQUAL: two of TYPE a: an INT, 1 or 0.");
        for (int type = 0; type < 4; type++) {
            answer(1, Op.INT, type, 4, type, 5, Op.BELOW, type);
            answer(0, Op.INT, type, 5, type, 5, Op.BELOW, type);
            answer(0, Op.INT, type, 4, type, 5, Op.EQUAL, type);
            answer(1, Op.INT, type, 5, type, 5, Op.EQUAL, type);
        }
        Document.goOn("20 CONVERT: of TYPE a / 4 (a 0 .. 15) to TYPE a % 4, as Java's casts do.");
        for (int a = 0; a <= 15; a++) {
            double given = a / 4 < Op.FLOAT ? -21 : -2.625;
            answer(a % 4 < Op.FLOAT ? (int) given : given, a % 4, a / 4, -21, Op.CONVERT, a);
        }
    }

    private static void frames() {
        Document.goOn("21 BLOCK, 22 LOOP, with TYPE a or 4 (what they give),");
        for (int type = 0; type < 4; type++) {
            answer(type < Op.FLOAT ? 8 : 1, type, Op.BLOCK, type, type, 8, Op.END, 0);
            answer(type < Op.FLOAT ? 8 : 1, type, Op.LOOP, type, type, 8, Op.END, 0);
        }
        answer(0, Op.NONE, Op.BLOCK, Op.NONE, Op.END, 0, Op.LOOP, Op.NONE, Op.END, 0);
        Document.goOn("23 IF, likewise, taking an INT: open a FRAME.");
        answer(1, Op.INT, Op.CONST_INT, 1, Op.CONST_INT, 5, Op.IF, Op.NONE, Op.END, 0);
        fault(103, Op.NONE, Op.CONST_LONG, 1, Op.IF, Op.NONE, Op.END, 0);
        Document.goOn("24 ELSE, in one opened by IF; 25 END of a FRAME.");
        for (int type = 0; type < 4; type++) {
            double unit = type < Op.FLOAT ? 8 : 1;
            answer(unit, type, Op.CONST_INT, -1, Op.IF, type, type, 8, Op.ELSE, 0, type, 16, Op.END, 0);
            answer(2 * unit, type, Op.CONST_INT, 0, Op.IF, type, type, 8, Op.ELSE, 0, type, 16, Op.END, 0);
        }
        Document.goOn("26 JUMP to the a-th FRAME from the innermost, 0, on, the CODE itself being the outermost;");
        for (int a = 0; a <= 2; a++) {
            // Each FRAME adds to what is brought to its END, so the sum tells how far the jump went.
            answer(new double[] {111, 101, 1}[a], Op.INT, Op.BLOCK, Op.INT, Op.BLOCK, Op.INT, Op.CONST_INT, 1,
                    Op.JUMP, a, Op.END, 0, Op.CONST_INT, 10, Op.ADD, 0, Op.END, 0, Op.CONST_INT, 100, Op.ADD, 0);
        }
    }

    private static void leaving() {
        Document.goOn("27 JUMP IF an INT, which is taken, isn't 0.");
        answer(5, Op.INT, Op.CONST_INT, 5, Op.CONST_INT, -1, Op.JUMP_IF, 0, Op.CONST_INT, 1, Op.ADD, 0);
        answer(6, Op.INT, Op.CONST_INT, 5, Op.CONST_INT, 0, Op.JUMP_IF, 0, Op.CONST_INT, 1, Op.ADD, 0);
        Document.goOn("28 RETURN: the RESULT.");
        answer(5, Op.INT, Op.BLOCK, Op.NONE, Op.CONST_LONG, 4, Op.CONST_INT, 5, Op.RETURN, 0, Op.END, 0,
                Op.CONST_INT, 6);
        Document.goOn("29 CALL FUNCTION a: its PARAMETERS, in order: its RESULT.");
        FlatModule module = Build.simple(Op.FLOAT, Op.CONST_LONG, 9, Op.CONST_FLOAT, 8, Op.CALL, 3);
        module.function(3, 2, 0, Build.types(Op.LONG, Op.FLOAT), Op.FLOAT);
        Build.code(module, 3, Op.GET, 0, Op.CONVERT, 4 * Op.LONG + Op.FLOAT, Op.GET, 1, Op.SUBTRACT, Op.FLOAT);
        checked(module);
        Due.answers("9 - 1", 8, () -> module.run(0, 0, 0, 0, 9));
        Document.goOn("30 TRAP.");
        throwing(Due.TRAPPED, Op.NONE, Op.TRAP, 0);
    }

    private static void checkingNumbersAndValues() {
        Document.goOn("CHECKING a FUNCTION, from its first INSTRUCTION on:");
        fault(102, Op.NONE, Op.BLOCK, Op.NONE, Op.DROP, 0, Op.GET, 9);
        Document.goOn("a number that isn't as said, or a FUNCTION that isn't there (in CALLS): FAULT 1.");
        int[][] most = {{Op.GET, 2}, {Op.SET, 2}, {Op.KEEP, 2}, {Op.GET_GLOBAL, 3}, {Op.SET_GLOBAL, 3}, {Op.ADD, 3},
            {Op.SUBTRACT, 3}, {Op.MULTIPLY, 3}, {Op.DIVIDE, 3}, {Op.REST, 1}, {Op.AND, 1}, {Op.SHIFT_LEFT, 1},
            {Op.BELOW, 3}, {Op.EQUAL, 3}, {Op.CONVERT, 15}, {Op.BLOCK, 4}, {Op.LOOP, 4}, {Op.IF, 4}, {Op.CALL, 0}};
        for (int[] row : most) {
            fault(1, Op.NONE, row[0], -1);
            fault(1, Op.NONE, row[0], row[1] + 1);
            boolean opens = row[0] >= Op.BLOCK && row[0] <= Op.IF;
            fault(opens ? 305 : 0, Op.NONE, Op.TRAP, 0, row[0], row[1], Op.TRAP, 0);
        }
        Document.goOn("A value that is taken isn't there (none in this FRAME since it was opened): FAULT 2,");
        fault(2, Op.NONE, Op.DROP, 0);
        fault(202, Op.NONE, Op.CONST_INT, 1, Op.BLOCK, Op.NONE, Op.DROP, 0, Op.END, 0);
        fault(402, Op.INT, Op.CONST_INT, 1, Op.IF, Op.INT, Op.CONST_INT, 1, Op.ELSE, 0, Op.DROP, 0);
        Document.goOn("or isn't of the TYPE: 3.");
        for (int type = 0; type < 4; type++) {
            for (int found = 0; found < 4; found++) {
                fault(type == found ? 0 : 103, Op.NONE, found, 1, Op.SET_GLOBAL, type);
            }
        }
    }

    private static void checkingJumpsAndEnds() {
        Document.goOn("A JUMP needs on the stack, and takes (27: takes and puts back), what its FRAME gives "
                + "(of a LOOP nothing; the CODE itself gives the RESULT): FAULT 2 or 3; no such FRAME: 1.");
        fault(0, Op.LONG, Op.BLOCK, Op.LONG, Op.CONST_LONG, 1, Op.JUMP, 0, Op.END, 0);
        fault(102, Op.LONG, Op.BLOCK, Op.LONG, Op.JUMP, 0, Op.END, 0);
        fault(203, Op.LONG, Op.BLOCK, Op.LONG, Op.CONST_INT, 1, Op.JUMP, 0, Op.END, 0);
        fault(0, Op.LONG, Op.CONST_LONG, 1, Op.CONST_INT, 1, Op.JUMP_IF, 0);
        fault(0, Op.LONG, Op.LOOP, Op.LONG, Op.JUMP, 0, Op.END, 0);
        fault(102, Op.LONG, Op.LOOP, Op.LONG, Op.JUMP, 1, Op.END, 0);
        fault(101, Op.LONG, Op.LOOP, Op.LONG, Op.JUMP, 2, Op.END, 0);
        Document.goOn("At ELSE and END the FRAME's stack must be just what it gives: FAULT 2 or 3, or 4 if there's "
                + "more; then (at END) that is put on the stack outside.");
        fault(202, Op.INT, Op.CONST_INT, 1, Op.IF, Op.INT, Op.ELSE, 0);
        fault(303, Op.INT, Op.CONST_INT, 1, Op.IF, Op.INT, Op.CONST_LONG, 1, Op.ELSE, 0);
        fault(404, Op.INT, Op.CONST_INT, 1, Op.IF, Op.INT, 0, 1, 0, 1, Op.ELSE, 0);
        fault(102, Op.INT, Op.BLOCK, Op.INT, Op.END, 0);
        fault(203, Op.INT, Op.BLOCK, Op.INT, Op.CONST_LONG, 1, Op.END, 0);
        fault(304, Op.INT, Op.BLOCK, Op.INT, 0, 1, 0, 1, Op.END, 0);
        answer(3, Op.INT, Op.CONST_INT, 1, Op.BLOCK, Op.INT, Op.CONST_INT, 2, Op.END, 0, Op.ADD, Op.INT);
        Document.goOn("ELSE elsewhere, END without FRAME, or FRAMES open at the end of the CODE: 5;");
        fault(105, Op.NONE, Op.BLOCK, Op.NONE, Op.ELSE, 0, Op.END, 0);
        fault(5, Op.NONE, Op.END, 0);
        fault(105, Op.NONE, Op.BLOCK, Op.NONE);
        Document.goOn("there the stack must be just the RESULT (2, 3, 4).");
        fault(2, Op.INT);
        fault(103, Op.INT, Op.CONST_LONG, 1);
        fault(204, Op.INT, Op.CONST_INT, 1, Op.CONST_INT, 1);
        Document.goOn("At END of an IF that gives something, without ELSE (seen after its stack): 6.");
        fault(306, Op.INT, Op.CONST_INT, 1, Op.IF, Op.INT, Op.CONST_INT, 1, Op.END, 0);
        fault(303, Op.INT, Op.CONST_INT, 1, Op.IF, Op.INT, Op.CONST_LONG, 1, Op.END, 0);
    }

    private static void checkingTheRest() {
        Document.goOn("Behind 26, 28 and 30 until the FRAME's ELSE or END (or the end of the CODE): the FRAME's stack "
                + "is emptied, and has as many values of any TYPE as are taken.");
        for (int op : new int[] {Op.JUMP, Op.RETURN, Op.TRAP}) {
            fault(0, Op.NONE, Op.CONST_LONG, 1, op, 0, Op.ADD, Op.FLOAT, Op.SET_GLOBAL, 2, Op.DROP, 0);
            fault(402, Op.NONE, Op.CONST_INT, 1, Op.IF, Op.NONE, op, 0, Op.ELSE, 0, Op.DROP, 0, Op.END, 0);
            fault(302, Op.NONE, Op.BLOCK, Op.NONE, op, 0, Op.END, 0, Op.DROP, 0);
        }
        Document.goOn("At most 8 FRAMES and 20 values: FAULT 7.");
        fault(0, Op.NONE, Build.join(Build.repeat(8, Op.BLOCK, Op.NONE), Build.repeat(8, Op.END, 0)));
        fault(807, Op.NONE, Build.join(Build.repeat(9, Op.BLOCK, Op.NONE), Build.repeat(9, Op.END, 0)));
        fault(0, Op.NONE, Build.join(Build.repeat(20, Op.CONST_INT, 1), Build.repeat(20, Op.DROP, 0)));
        fault(2007, Op.NONE, Build.repeat(21, Op.CONST_INT, 1));
        Document.goOn("In one INSTRUCTION: a first; then values, the latest first.");
        fault(101, Op.NONE, Op.CONST_LONG, 1, Op.ADD, 4);
        fault(103, Op.NONE, Op.CONST_LONG, 1, Op.ADD, Op.INT);
        Document.goOn("The module is CHECKED if all FUNCTIONS are without FAULT (in order), till one is changed.");
        FlatModule module = Build.simple(Op.INT);
        module.function(2, 0, 0, 0, Op.LONG);
        Due.answers("of the first", 2, module::check);
        module.emit(0, Op.CONST_INT, 1);
        Due.answers("of the next", 20002, module::check);
        module.emit(2, Op.CONST_LONG, 1);
        Due.answers("mended, not CHECKED", 0, () -> module.count(1));
        Due.answers("of none", 0, module::check);
        Due.answers("CHECKED", 1, () -> module.count(1));
        module.emit(2, Op.RETURN, 1);
        Due.answers("changed", 0, () -> module.count(1));
    }

    private static void running() {
        Document.goOn("RUNNING needs it CHECKED.");
        FlatModule module = Build.withLocals(1, 0, Op.INT, Op.NONE, Op.BLOCK, Op.NONE, Op.LOOP, Op.NONE, Op.GET, 0,
                Op.IF, Op.NONE, Op.ELSE, 0, Op.END, 0, Op.END, 0, Op.END, 0);
        Due.fails("not yet", Due.STATE, () -> module.run(0, 1, 0, 0, 300));
        checked(module);
        Document.goOn("Each INSTRUCTION done takes one FUEL, but 21, 22 and 25 none, ELSE one when it's come to from "
                + "above (leaving the IF).");
        Due.answers("GET, IF, ELSE", 0, () -> module.run(0, 1, 0, 0, 3));
        Due.answers("three", 3, () -> module.count(2));
        Due.answers("GET, IF", 0, () -> module.run(0, 0, 0, 0, 2));
        Due.answers("two", 2, () -> module.count(2));
        Document.goOn("None left: OUT OF FUEL.");
        Due.fails("for ELSE", Due.STATE, () -> module.run(0, 1, 0, 0, 2));
        throwing(Due.STATE, Op.NONE, Op.LOOP, Op.NONE, Op.JUMP, 0, Op.END, 0);
        Document.goOn("CALLS within one another above 8 (the first is one): the same.");
        FlatModule nested = checked(Build.withLocals(1, 0, Op.INT, Op.NONE, Op.GET, 0, Op.IF, Op.NONE, Op.GET, 0,
                Op.CONST_INT, 1, Op.SUBTRACT, Op.INT, Op.CALL, 0, Op.END, 0));
        Due.answers("8", 0, () -> nested.run(0, 7, 0, 0, 300));
        Due.fails("9", Due.STATE, () -> nested.run(0, 8, 0, 0, 300));
        Document.goOn("DIVIDE and REST of INT and LONG wrap, towards zero.");
        answer(-2147483648.0, Op.INT, 0, Integer.MIN_VALUE, 0, -1, Op.DIVIDE, 0);
        answer(0, Op.INT, 0, Integer.MIN_VALUE, 0, -1, Op.REST, 0);
        for (int type = 0; type < 2; type++) {
            answer(-3, type, type, -11, type, 3, Op.DIVIDE, type);
            answer(-2, type, type, -11, type, 3, Op.REST, type);
            answer(2, type, type, 11, type, -3, Op.REST, type);
        }
        answer(-9223372036854775808.0, Op.LONG, 1, 1, 1, 63, Op.SHIFT_LEFT, 1, 1, -1, Op.DIVIDE, 1);
        answer(0, Op.LONG, 1, 1, 1, 63, Op.SHIFT_LEFT, 1, 1, -1, Op.REST, 1);
    }

    private static void trapping() {
        Document.goOn("TRAPS: 30: UnsupportedOperationException.");
        throwing(Due.TRAPPED, Op.INT, Op.CONST_INT, 1, Op.TRAP, 0);
        Document.goOn("By 0 or 0.0 (14, 15), or a FLOAT or DOUBLE outcome of 11 to 14 or of CONVERT above 1000000000.0 "
                + "or below -1000000000.0 (as a DOUBLE): ArithmeticException.");
        for (int type = 0; type < 4; type++) {
            throwing(Due.ARITHMETIC, type, type, 1, type, 0, Op.DIVIDE, type);
        }
        throwing(Due.ARITHMETIC, Op.INT, 0, 1, 0, 0, Op.REST, 0);
        throwing(Due.ARITHMETIC, Op.LONG, 1, 1, 1, 0, Op.REST, 1);
        for (int type = Op.FLOAT; type <= Op.DOUBLE; type++) {
            for (int sign = -1; sign <= 1; sign += 2) {
                answer(sign * 1e9, type, type, 80000000, type, sign * 800, Op.MULTIPLY, type);
                throwing(Due.ARITHMETIC, type, type, 80000000, type, sign * 801, Op.MULTIPLY, type);
                answer(sign * 1e9, type, Op.CONST_INT, sign * 1000000000, Op.CONVERT, type);
                int above = type == Op.FLOAT ? 1000000033 : 1000000001;
                throwing(Due.ARITHMETIC, type, Op.CONST_INT, sign * above, Op.CONVERT, type);
            }
        }
        Document.goOn("SHIFTS go by the lowest 5 bits (INT; LONG: 6).");
        answer(6, Op.INT, 0, 3, 0, 33, Op.SHIFT_LEFT, 0);
        answer(25769803776.0, Op.LONG, 1, 3, 1, 33, Op.SHIFT_LEFT, 1);
        answer(6, Op.LONG, 1, 3, 1, 65, Op.SHIFT_LEFT, 1);
        Document.goOn("GLOBALS set before a TRAP, or without FUEL, stay so.");
        FlatModule module = checked(Build.simple(Op.NONE, 0, 7, Op.SET_GLOBAL, 0, 1, 8, Op.SET_GLOBAL, 1, Op.TRAP, 0));
        Due.fails("without FUEL", Due.STATE, () -> module.run(0, 0, 0, 0, 3));
        Due.answers("set", 7, () -> module.global(0));
        Due.answers("not set", 0, () -> module.global(1));
        Due.fails("trap", Due.TRAPPED, () -> module.run(0, 0, 0, 0, 5));
        Due.answers("set, too", 8, () -> module.global(1));
    }

    private static void exceptions() {
        Document.goOn("\"Bad\" is IllegalArgumentException, a number out of range, a FUNCTION that isn't there; it "
                + "comes first.");
        FlatModule module = Build.simple(Op.NONE, Build.repeat(40, Op.TRAP, 0));
        Due.fails("a number, before no room", Due.BAD, () -> module.emit(0, 31, 0));
        Due.fails("a FUNCTION", Due.BAD, () -> module.emit(1, Op.TRAP, 0));
        Due.fails("a number, before it isn't CHECKED", Due.BAD, () -> module.run(0, 0, 0, 0, 301));
        Due.fails("a FUNCTION, before it isn't CHECKED", Due.BAD, () -> module.run(1, 0, 0, 0, 300));
        Document.goOn("Not CHECKED, no room, OUT OF FUEL: IllegalStateException.");
        Due.fails("not CHECKED", Due.STATE, () -> module.run(0, 0, 0, 0, 300));
        Due.fails("no room", Due.STATE, () -> module.emit(0, Op.TRAP, 0));
        throwing(Due.STATE, Op.NONE, Op.CALL, 0);
        Document.goOn("What throws changes nothing, but run() what it did before.");
        checked(module);
        Due.fails("no room", Due.STATE, () -> module.emit(0, Op.TRAP, 0));
        Due.fails("bad", Due.BAD, Due.doing(() -> module.function(0, 0, 0, 0, 5)));
        Due.answers("as many as before", 40, () -> module.count(10));
        Due.answers("CHECKED as before", 1, () -> module.count(1));
        Due.fails("a trap", Due.TRAPPED, () -> module.run(0, 0, 0, 0, 300));
        Due.answers("what it did", 1, () -> module.count(2));
        Due.fails("a bad run", Due.BAD, () -> module.run(0, 0, 0, 0, 0));
        Due.answers("what it did stays", 1, () -> module.count(2));
    }

    private static void promisesOneToFour() {
        Document.goOn("## Promise 1: A new object FlatModule(): No FUNCTIONS.");
        FlatModule module = new FlatModule();
        Due.answers("FUNCTIONS", 0, () -> module.count(0));
        Document.goOn("## Promise 2: function void function(int f, int n, int m, int types, int result) throws "
                + "IllegalArgumentException: FUNCTION f (0 .. 3) is there, without CODE, with n PARAMETERS (0 .. 3) "
                + "and m LOCALS (0 .. 3), whose TYPES, PARAMETERS first, are the lowest bits of types, two each; "
                + "result 0 .. 4.");
        module.function(3, 2, 1, ~0b111111 | 0b011011, Op.LONG);
        Due.answers("FUNCTIONS", 1, () -> module.count(0));
        Due.answers("without CODE", 0, () -> module.count(13));
        Build.code(module, 3, Op.GET, 0, Op.SET_GLOBAL, 3, Op.GET, 1, Op.SET_GLOBAL, 2, Op.GET, 2);
        Due.answers("DOUBLE, FLOAT, LONG", 0, module::check);
        for (int[] bad : new int[][] {{4, 0, 0, 0}, {-1, 0, 0, 0}, {0, 4, 0, 0}, {0, 0, 4, 0}, {0, 0, 0, 5}}) {
            Due.fails("bad", Due.BAD, Due.doing(() -> module.function(bad[0], bad[1], bad[2], 0, bad[3])));
        }
        Document.goOn("## Promise 3: emit int emit(int f, int op, int a) throws IllegalArgumentException, "
                + "IllegalStateException: A new last INSTRUCTION of FUNCTION f; op 0 .. 30, any a. 40 are there: no "
                + "room. Answers how many there are.");
        for (int many = 6; many <= 40; many++) {
            int op = many % 31;
            Due.answers("the next", many, () -> module.emit(3, op, Integer.MIN_VALUE));
        }
        Due.fails("no room", Due.STATE, () -> module.emit(3, 0, 0));
        Due.fails("op", Due.BAD, () -> module.emit(3, 31, 0));
        Document.goOn("## Promise 4: erase void erase(int f) throws IllegalArgumentException: FUNCTION f has no CODE.");
        Due.answers("erase(3)", 0, Due.doing(() -> module.erase(3)));
        Due.answers("no CODE", 0, () -> module.count(13));
        Due.answers("there still", 1, () -> module.count(0));
        Due.fails("erase(2)", Due.BAD, Due.doing(() -> module.erase(2)));
    }

    private static void promisesFiveAndSix() {
        Document.goOn("## Promise 5: check int check(): CHECKS the module. Answers 0, or of the first FAULT: 10000 * "
                + "its FUNCTION + 100 * the number of its INSTRUCTION (how many there are, at the end) + FAULT.");
        FlatModule module = new FlatModule();
        Due.answers("no FUNCTIONS", 0, module::check);
        module.function(3, 3, 0, 0b100100, Op.LONG);
        Due.answers("at the end of none", 30002, module::check);
        Build.code(module, 3, Build.repeat(40, Op.BLOCK, Op.NONE));
        Due.answers("in the ninth", 30807, module::check);
        module.erase(3);
        Build.code(module, 3, Op.GET, 0, Op.CONVERT, 1, Op.GET, 1, Op.ADD, Op.LONG, Op.GET, 2);
        Due.answers("at the end of five", 30503, module::check);
        Build.code(module, 3, Op.CONVERT, 9, Op.ADD, Op.LONG);
        Due.answers("none", 0, module::check);
        Document.goOn("## Promise 6: run double run(int f, double x, double y, double z, int fuel) throws "
                + "IllegalArgumentException, IllegalStateException, ArithmeticException, "
                + "UnsupportedOperationException: RUNS FUNCTION f, PARAMETERS being x, y, z as they are needed, as "
                + "Java's casts from double do, with so much FUEL (1 .. 300).");
        Due.answers("3e9 cut, and two more", 2147483647.0 + 2 - 3, () -> module.run(3, 3e9, 2.75, -3.75, 7));
        Due.fails("too little", Due.STATE, () -> module.run(3, 3e9, 2.75, -3.75, 6));
        Due.fails("0", Due.BAD, () -> module.run(3, 3e9, 2.75, -3.75, 0));
        Due.fails("301", Due.BAD, () -> module.run(3, 3e9, 2.75, -3.75, 301));
        Document.goOn("Answers the RESULT, as a double (a LONG cast so), 0.0 without.");
        Due.answers("2^53 + 1, cast", 9007199254740992.0, () -> module.run(3, 1, 9007199254740992.0, 0, 7));
        answer(0, Op.NONE, Op.CONST_INT, 5, Op.RETURN, 0);
    }

    private static void promisesSevenAndEight() {
        Document.goOn("## Promise 7: global double global(int g) throws IllegalArgumentException: GLOBAL g, as run's "
                + "RESULT.");
        FlatModule module = checked(Build.simple(Op.NONE, 0, -5, Op.SET_GLOBAL, 0, 1, 1, 1, 62, Op.SHIFT_LEFT, 1,
                1, 1, Op.ADD, 1, Op.SET_GLOBAL, 1, 2, 9, Op.SET_GLOBAL, 2, 3, -9, Op.SET_GLOBAL, 3));
        module.run(0, 0, 0, 0, 300);
        double[] want = {-5, 4611686018427387904.0, 1.125, -1.125};
        for (int g = 0; g < 4; g++) {
            int number = g;
            Due.answers("GLOBAL " + g, want[g], () -> module.global(number));
        }
        Due.fails("GLOBAL 4", Due.BAD, () -> module.global(4));
        Document.goOn("## Promise 8: count int count(int what): FUNCTIONS (0), 1 if CHECKED, else 0 (1), FUEL used by "
                + "the latest run (2), the deepest CALLS in it (3), INSTRUCTIONS of FUNCTION what - 10 (10 .. 13), 0 "
                + "for none; else -1.");
        module.function(2, 0, 0, 0, Op.NONE);
        Build.code(module, 2, Op.CALL, 0, Op.RETURN, 0);
        int[][] before = {{0, 2}, {1, 0}, {2, 12}, {3, 1}, {10, 12}, {11, 0}, {12, 2}, {13, 0}, {14, -1}, {4, -1}};
        for (int[] row : before) {
            Due.answers("count(" + row[0] + ")", row[1], () -> module.count(row[0]));
        }
        checked(module);
        module.run(2, 0, 0, 0, 300);
        for (int[] row : new int[][] {{1, 1}, {2, 14}, {3, 2}, {9, -1}, {-1, -1}}) {
            Due.answers("count(" + row[0] + ")", row[1], () -> module.count(row[0]));
        }
    }
}
