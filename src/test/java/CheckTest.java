/** Promise 5: check() tells the first fault, or makes the module checked. */
public final class CheckTest {
    public static void main(String[] args) {
        numbersThatAreNotAsSaid();
        numbersThatDoNotMatter();
        valuesThatAreNotThere();
        valuesOfTheWrongType();
        whatInstructionsPut();
        jumps();
        elseAndEnd();
        endOfTheCode();
        deadCode();
        anyTypeInDeadCode();
        limits();
        orderInOneInstruction();
        calls();
        orderOfFunctions();
        Due.end();
    }

    private static void due(String what, int want, int result, int... code) {
        Due.answers(what, want, Build.simple(result, code)::check);
    }

    private static void numbersThatAreNotAsSaid() {
        int[][] mostOfOp = {{Op.GET, -1}, {Op.SET, -1}, {Op.KEEP, -1}, {Op.GET_GLOBAL, 3}, {Op.SET_GLOBAL, 3},
            {Op.ADD, 3}, {Op.SUBTRACT, 3}, {Op.MULTIPLY, 3}, {Op.DIVIDE, 3}, {Op.REST, 1}, {Op.AND, 1},
            {Op.SHIFT_LEFT, 1}, {Op.BELOW, 3}, {Op.EQUAL, 3}, {Op.CONVERT, 15}, {Op.BLOCK, 4}, {Op.LOOP, 4},
            {Op.IF, 4}, {Op.JUMP, 0}, {Op.JUMP_IF, 0}, {Op.CALL, 0}};
        for (int[] row : mostOfOp) {
            for (int a : new int[] {-1, row[1] + 1, Integer.MIN_VALUE, Integer.MAX_VALUE}) {
                due("op " + row[0] + " with " + a, 1, Op.NONE, row[0], a);
            }
            if (row[1] >= 0) {
                Due.answers("op " + row[0] + " with " + row[1] + " has no fault 1", 1,
                        () -> Build.simple(Op.NONE, row[0], row[1]).check() % 100 == 1 ? 0 : 1);
            }
        }
        Due.answers("local 2 of two", 101,
                Build.withLocals(1, 1, 0, Op.NONE, Op.CONST_INT, 0, Op.SET, 2)::check);
    }

    private static void numbersThatDoNotMatter() {
        due("free numbers", 0, Op.NONE, Op.CONST_INT, -7, Op.CONST_INT, Integer.MIN_VALUE, Op.CONST_INT, 1,
                Op.CHOOSE, -1, Op.IF, Op.NONE, Op.ELSE, -5, Op.END, 77, Op.CONST_LONG, -1, Op.DROP, 1000,
                Op.CONST_FLOAT, -1, Op.DROP, -1, Op.CONST_DOUBLE, Integer.MAX_VALUE, Op.DROP, 31, Op.RETURN, -9,
                Op.TRAP, -9);
    }

    private static void valuesThatAreNotThere() {
        int[][] takers = {{Op.SET_GLOBAL, 2}, {Op.DROP, 0}, {Op.CHOOSE, 0}, {Op.ADD, 0}, {Op.REST, 0}, {Op.AND, 1},
            {Op.SHIFT_LEFT, 0}, {Op.BELOW, 3}, {Op.EQUAL, 2}, {Op.CONVERT, 5}, {Op.IF, 4}, {Op.JUMP_IF, 0}};
        for (int[] taker : takers) {
            due("op " + taker[0] + " takes", 2, Op.NONE, taker[0], taker[1]);
            due("op " + taker[0] + " takes from this frame", 1202, Op.NONE, Build.join(
                    Build.repeat(11, Op.CONST_INT, 0), new int[] {Op.BLOCK, Op.NONE, taker[0], taker[1]}));
        }
        due("two of one", 102, Op.NONE, Op.CONST_INT, 1, Op.ADD, Op.INT);
        due("one to choose", 202, Op.NONE, Op.CONST_LONG, 1, Op.CONST_INT, 1, Op.CHOOSE, 0);
        due("RETURN without result", 2, Op.INT, Op.RETURN, 0);
        due("RETURN of none", 0, Op.NONE, Op.RETURN, 0);
        Due.answers("SET", 2, Build.withLocals(0, 1, 0, Op.NONE, Op.SET, 0)::check);
        Due.answers("KEEP", 2, Build.withLocals(0, 1, 0, Op.NONE, Op.KEEP, 0)::check);
    }

    private static void valuesOfTheWrongType() {
        for (int type = 0; type < 4; type++) {
            int other = (type + 1) % 4;
            for (int op = Op.ADD; op <= Op.EQUAL; op++) {
                boolean wholeOnly = op >= Op.REST && op <= Op.SHIFT_LEFT;
                if (!wholeOnly || type <= Op.LONG) {
                    due("latest of " + op, 203, Op.NONE, type, 1, other, 1, op, type);
                    due("first of " + op, 203, Op.NONE, other, 1, type, 1, op, type);
                }
            }
            due("convert", 103, Op.NONE, other, 1, Op.CONVERT, 4 * type + other);
            due("return", 103, type, other, 1, Op.RETURN, 0);
            due("choose of two types", 303, Op.NONE, type, 1, other, 1, Op.CONST_INT, 0, Op.CHOOSE, 0);
            if (type != Op.INT) {
                due("choose by another type", 303, Op.NONE, 0, 1, 0, 1, type, 0, Op.CHOOSE, 0);
                due("if", 103, Op.NONE, type, 1, Op.IF, Op.NONE);
                due("jump if", 103, Op.NONE, type, 1, Op.JUMP_IF, 0);
            }
            Due.answers("set", 103, Build.withLocals(0, 1, type, Op.NONE, other, 1, Op.SET, 0)::check);
            Due.answers("keep", 103, Build.withLocals(0, 1, type, Op.NONE, other, 1, Op.KEEP, 0)::check);
        }
    }

    private static void whatInstructionsPut() {
        for (int type = 0; type < 4; type++) {
            due("constant", 0, type, type, 1);
            due("choose", 0, type, type, 1, type, 2, Op.CONST_INT, 0, Op.CHOOSE, 0);
            due("add", 0, type, type, 1, type, 2, Op.ADD, type);
            due("below", 0, Op.INT, type, 1, type, 2, Op.BELOW, type);
            due("equal", 0, Op.INT, type, 1, type, 2, Op.EQUAL, type);
            due("block", 0, type, Op.BLOCK, type, type, 1, Op.END, 0);
            due("loop", 0, type, Op.LOOP, type, type, 1, Op.END, 0);
            Due.answers("get", 0, Build.withLocals(0, 1, type, type, Op.GET, 0)::check);
            Due.answers("keep", 0, Build.withLocals(0, 1, type, type, type, 1, Op.KEEP, 0)::check);
            Due.answers("set leaves nothing", 202,
                    Build.withLocals(0, 1, type, type, type, 1, Op.SET, 0)::check);
            for (int to = 0; to < 4; to++) {
                due("convert", 0, to, type, 1, Op.CONVERT, 4 * type + to);
            }
        }
        due("rest", 0, Op.LONG, Op.CONST_LONG, 5, Op.CONST_LONG, 3, Op.REST, Op.LONG);
        due("shift of LONG by LONG", 0, Op.LONG, Op.CONST_LONG, 5, Op.CONST_LONG, 3, Op.SHIFT_LEFT, Op.LONG);
        due("shift of LONG by INT", 203, Op.LONG, Op.CONST_LONG, 5, Op.CONST_INT, 3, Op.SHIFT_LEFT, Op.LONG);
    }

    private static void jumps() {
        due("to the code itself", 0, Op.INT, Op.CONST_INT, 1, Op.JUMP, 0);
        due("to the code itself, without result", 2, Op.INT, Op.JUMP, 0);
        due("to the code itself, wrong result", 103, Op.INT, Op.CONST_LONG, 1, Op.JUMP, 0);
        due("more lies below", 0, Op.INT, Op.CONST_LONG, 1, Op.CONST_INT, 1, Op.JUMP, 0);
        due("out of a block to the code", 0, Op.INT, Op.BLOCK, Op.NONE, Op.CONST_INT, 1, Op.JUMP, 1, Op.END, 0,
                Op.CONST_INT, 2);
        due("beyond the code", 201, Op.INT, Op.BLOCK, Op.NONE, Op.CONST_INT, 1, Op.JUMP, 2);
        due("what the block gives", 0, Op.LONG, Op.BLOCK, Op.LONG, Op.CONST_LONG, 1, Op.JUMP, 0, Op.END, 0);
        due("not what the block gives", 203, Op.LONG, Op.BLOCK, Op.LONG, Op.CONST_INT, 1, Op.JUMP, 0);
        due("the value lies outside", 202, Op.NONE, Op.CONST_INT, 1, Op.BLOCK, Op.INT, Op.JUMP, 0);
        due("a loop needs nothing", 0, Op.DOUBLE, Op.LOOP, Op.DOUBLE, Op.JUMP, 0, Op.END, 0);
        due("jump if to a loop takes the INT alone", 0, Op.INT, Op.LOOP, Op.INT, Op.CONST_INT, 1, Op.JUMP_IF, 0,
                Op.CONST_INT, 3, Op.END, 0);
        due("jump if puts the value back", 0, Op.FLOAT, Op.BLOCK, Op.FLOAT, Op.CONST_FLOAT, 1, Op.CONST_INT, 1,
                Op.JUMP_IF, 0, Op.END, 0);
        due("jump if needs the value", 202, Op.FLOAT, Op.BLOCK, Op.FLOAT, Op.CONST_INT, 1, Op.JUMP_IF, 0);
        due("jump if needs its type", 303, Op.FLOAT, Op.BLOCK, Op.FLOAT, Op.CONST_INT, 1, Op.CONST_INT, 1,
                Op.JUMP_IF, 0);
        due("jump if goes on alive", 202, Op.NONE, Op.CONST_INT, 1, Op.JUMP_IF, 0, Op.DROP, 0);
    }

    private static void elseAndEnd() {
        due("too little at else", 202, Op.NONE, Op.CONST_INT, 1, Op.IF, Op.INT, Op.ELSE, 0);
        due("wrong type at else", 303, Op.NONE, Op.CONST_INT, 1, Op.IF, Op.INT, Op.CONST_LONG, 1, Op.ELSE, 0);
        due("too much at else", 404, Op.NONE, Op.CONST_INT, 1, Op.IF, Op.INT, Op.CONST_LONG, 1, Op.CONST_INT, 1,
                Op.ELSE, 0);
        due("too little at end", 102, Op.INT, Op.BLOCK, Op.INT, Op.END, 0);
        due("wrong type at end", 203, Op.INT, Op.BLOCK, Op.INT, Op.CONST_FLOAT, 0, Op.END, 0);
        due("the latest is the one that is given", 303, Op.INT, Op.BLOCK, Op.INT, Op.CONST_INT, 0,
                Op.CONST_FLOAT, 0, Op.END, 0);
        due("too much at end", 304, Op.INT, Op.BLOCK, Op.INT, Op.CONST_FLOAT, 0, Op.CONST_INT, 0, Op.END, 0);
        due("something for nothing", 204, Op.NONE, Op.LOOP, Op.NONE, Op.CONST_FLOAT, 0, Op.END, 0);
        due("else in the code", 5, Op.NONE, Op.ELSE, 0);
        due("else in a block", 105, Op.NONE, Op.BLOCK, Op.NONE, Op.ELSE, 0);
        due("else in a loop inside an if", 305, Op.NONE, Op.CONST_INT, 1, Op.IF, Op.NONE, Op.LOOP, Op.NONE,
                Op.ELSE, 0);
        due("a second else", 305, Op.NONE, Op.CONST_INT, 1, Op.IF, Op.NONE, Op.ELSE, 0, Op.ELSE, 0);
        due("end without frame", 5, Op.NONE, Op.END, 0);
        due("one end too many", 205, Op.NONE, Op.BLOCK, Op.NONE, Op.END, 0, Op.END, 0);
        due("no else, but a value", 306, Op.INT, Op.CONST_INT, 1, Op.IF, Op.INT, Op.CONST_INT, 1, Op.END, 0);
        due("seen after too little", 202, Op.INT, Op.CONST_INT, 1, Op.IF, Op.INT, Op.END, 0);
        due("seen after the type", 303, Op.INT, Op.CONST_INT, 1, Op.IF, Op.INT, Op.CONST_LONG, 0, Op.END, 0);
        due("seen after too much", 404, Op.INT, Op.CONST_INT, 1, Op.IF, Op.INT, Op.CONST_LONG, 0, Op.CONST_INT, 0,
                Op.END, 0);
        due("no else and no value", 0, Op.NONE, Op.CONST_INT, 1, Op.IF, Op.NONE, Op.END, 0);
        due("the else has a stack of its own", 402, Op.INT, Op.CONST_INT, 1, Op.IF, Op.INT, Op.CONST_INT, 1,
                Op.ELSE, 0, Op.END, 0);
        due("jump out of the else", 0, Op.LONG, Op.CONST_INT, 1, Op.IF, Op.LONG, Op.CONST_LONG, 1, Op.ELSE, 0,
                Op.CONST_LONG, 2, Op.JUMP, 0, Op.END, 0);
    }

    private static void endOfTheCode() {
        due("empty", 0, Op.NONE);
        due("empty, with a result", 2, Op.LONG);
        due("wrong type", 103, Op.LONG, Op.CONST_INT, 0);
        due("too much", 204, Op.LONG, Op.CONST_INT, 0, Op.CONST_LONG, 0);
        due("too much for nothing", 104, Op.NONE, Op.CONST_INT, 0);
        due("a frame is open", 105, Op.NONE, Op.BLOCK, Op.NONE);
        due("seen before the stack", 205, Op.LONG, Op.CONST_INT, 0, Op.LOOP, Op.NONE);
        due("40 instructions", 0, Op.NONE, Build.repeat(20, Op.CONST_INT, 1, Op.DROP, 0));
        due("40 instructions, too much", 4004, Op.NONE, Build.join(Build.repeat(19, Op.CONST_INT, 1, Op.DROP, 0),
                Build.repeat(2, Op.CONST_LONG, 1)));
    }

    private static void deadCode() {
        for (int op : new int[] {Op.JUMP, Op.RETURN, Op.TRAP}) {
            due("any result behind " + op, 0, Op.INT, Op.CONST_INT, 1, op, 0);
            due("as many as are taken behind " + op, 0, Op.INT, Op.CONST_INT, 1, op, 0, Op.ADD, Op.DOUBLE,
                    Op.SET_GLOBAL, 3, Op.CHOOSE, 0);
            due("the stack is emptied behind " + op, 0, Op.INT, Op.CONST_FLOAT, 1, Op.CONST_INT, 1, op, 0,
                    Op.CONST_INT, 1);
            due("what is put has its type behind " + op, 303, Op.INT, Op.CONST_INT, 1, op, 0, Op.CONST_LONG, 1);
            due("what is put is too much behind " + op, 404, Op.INT, Op.CONST_INT, 1, op, 0, Op.CONST_LONG, 1,
                    Op.CONST_INT, 1);
            due("a number behind " + op, 201, Op.INT, Op.CONST_INT, 1, op, 0, Op.ADD, 4);
        }
        due("until the else", 402, Op.NONE, Op.CONST_INT, 1, Op.IF, Op.NONE, Op.TRAP, 0, Op.ELSE, 0, Op.DROP, 0,
                Op.END, 0);
        due("until the end", 302, Op.NONE, Op.BLOCK, Op.NONE, Op.TRAP, 0, Op.END, 0, Op.DROP, 0);
        due("a frame inside has a stack of its own", 202, Op.NONE, Op.TRAP, 0, Op.BLOCK, Op.NONE, Op.DROP, 0);
        due("behind a frame inside it is dead still", 0, Op.INT, Op.TRAP, 0, Op.BLOCK, Op.NONE, Op.END, 0, Op.DROP, 0);
        due("a dead if with a dead condition", 0, Op.INT, Op.TRAP, 0, Op.IF, Op.INT, Op.CONST_INT, 1, Op.ELSE, 0,
                Op.TRAP, 0, Op.END, 0);
        due("what lies outside stays", 0, Op.LONG, Op.CONST_LONG, 1, Op.BLOCK, Op.NONE, Op.CONST_INT, 0, Op.TRAP, 0,
                Op.END, 0);
        due("else in dead code of a block", 205, Op.NONE, Op.BLOCK, Op.NONE, Op.TRAP, 0, Op.ELSE, 0);
        due("no else in dead code", 306, Op.INT, Op.CONST_INT, 1, Op.IF, Op.INT, Op.TRAP, 0, Op.END, 0);
    }

    private static void anyTypeInDeadCode() {
        due("chosen of two of any type", 0, Op.NONE, Op.TRAP, 0, Op.CHOOSE, 0, Op.SET_GLOBAL, 2);
        due("chosen of one known type", 403, Op.NONE, Op.TRAP, 0, Op.CONST_LONG, 0, Op.CONST_INT, 0,
                Op.CHOOSE, 0, Op.SET_GLOBAL, 2);
        due("chosen of a chosen one and one of known type", 503, Op.NONE, Op.TRAP, 0, Op.CHOOSE, 0, Op.CONST_LONG, 0,
                Op.CONST_INT, 0, Op.CHOOSE, 0, Op.SET_GLOBAL, 2);
        due("a chosen one of any type below a known one", 0, Op.NONE, Op.TRAP, 0, Op.CHOOSE, 0, Op.CONST_LONG, 1,
                Op.ADD, Op.LONG, Op.SET_GLOBAL, 1);
        due("jump if puts back what its frame gives", 203, Op.LONG, Op.TRAP, 0, Op.JUMP_IF, 0, Op.ADD, Op.INT);
        Due.answers("keep leaves a value of the local's type", 203,
                Build.withLocals(0, 1, Op.FLOAT, Op.NONE, Op.TRAP, 0, Op.KEEP, 0, Op.SET_GLOBAL, 3)::check);
    }

    private static void limits() {
        int[] twenty = Build.repeat(20, Op.CONST_INT, 1);
        int[] eight = Build.repeat(8, Op.BLOCK, Op.NONE);
        due("20 values", 2004, Op.NONE, twenty);
        due("21 values", 2007, Op.NONE, Build.join(twenty, new int[] {Op.CONST_INT, 1}));
        due("20 values, one of them changed", 2104, Op.NONE, Build.join(twenty, new int[] {Op.CONVERT, 0}));
        due("8 frames", 0, Op.NONE, Build.join(eight, Build.repeat(8, Op.END, 0)));
        due("9 frames", 807, Op.NONE, Build.join(eight, new int[] {Op.LOOP, Op.NONE}));
        due("9 frames, not at once", 0, Op.NONE, Build.join(eight, new int[] {Op.END, 0, Op.LOOP, Op.NONE},
                Build.repeat(8, Op.END, 0)));
        due("jump over 8 frames", 0, Op.NONE, Build.join(eight, new int[] {Op.JUMP, 8}, Build.repeat(8, Op.END, 0)));
        due("jump over 9", 801, Op.NONE, Build.join(eight, new int[] {Op.JUMP, 9}));
        due("a frame's value beside 20", 2207, Op.NONE, Build.join(twenty,
                new int[] {Op.BLOCK, Op.INT, Op.TRAP, 0, Op.END, 0}));
        due("a frame's value among 20", 2204, Op.NONE, Build.join(Build.repeat(19, Op.CONST_INT, 1),
                new int[] {Op.BLOCK, Op.INT, Op.CONST_INT, 1, Op.END, 0}));
        due("jump if puts back beside 20", 2307, Op.NONE, Build.join(twenty,
                new int[] {Op.BLOCK, Op.INT, Op.TRAP, 0, Op.DROP, 0, Op.JUMP_IF, 0}));
        due("dead values need no room", 2404, Op.NONE, Build.join(twenty,
                new int[] {Op.BLOCK, Op.NONE, Op.TRAP, 0, Op.SET_GLOBAL, 3, Op.END, 0}));
    }

    private static void orderInOneInstruction() {
        int[] eight = Build.repeat(8, Op.BLOCK, Op.NONE);
        due("number before value", 1, Op.NONE, Op.IF, 5);
        due("number before depth", 801, Op.NONE, Build.join(eight, new int[] {Op.BLOCK, 5}));
        due("value before depth", 802, Op.NONE, Build.join(eight, new int[] {Op.IF, 4}));
        due("if, too deep", 907, Op.NONE, Build.join(eight, new int[] {Op.CONST_INT, 1, Op.IF, 4}));
        due("the latest value first, 3 before 2", 103, Op.NONE, Op.CONST_LONG, 1, Op.ADD, Op.INT);
        due("the INT of jump if before the rest", 203, Op.NONE, Op.BLOCK, Op.INT, Op.CONST_LONG, 1, Op.JUMP_IF, 0);
        due("else elsewhere before its stack", 205, Op.NONE, Op.BLOCK, Op.NONE, Op.CONST_INT, 1, Op.ELSE, 0);
        due("number before room", 2001, Op.NONE, Build.join(Build.repeat(20, Op.CONST_INT, 1),
                new int[] {Op.GET_GLOBAL, 4}));
    }

    private static void calls() {
        FlatModule module = Build.simple(Op.FLOAT, Op.CONST_INT, 1, Op.CONST_DOUBLE, 1, Op.CALL, 3);
        Due.answers("isn't there", 201, module::check);
        module.function(3, 2, 1, Build.types(Op.INT, Op.DOUBLE, Op.LONG), Op.FLOAT);
        Build.code(module, 3, Op.CONST_FLOAT, 1);
        Due.answers("parameters in order, and a result", 0, module::check);
        module.function(3, 2, 1, Build.types(Op.DOUBLE, Op.INT, Op.LONG), Op.FLOAT);
        Due.answers("the last parameter first", 203, module::check);
        module.function(3, 3, 0, Build.types(Op.LONG, Op.INT, Op.DOUBLE), Op.FLOAT);
        Due.answers("one parameter too few", 202, module::check);
        module.function(3, 1, 0, Build.types(Op.DOUBLE), Op.FLOAT);
        Due.answers("one parameter too many", 304, module::check);
        module.function(3, 2, 0, Build.types(Op.INT, Op.DOUBLE), Op.NONE);
        Due.answers("no result", 302, module::check);
        module.function(0, 0, 0, 0, Op.NONE);
        module.function(3, 0, 0, 0, Op.INT);
        Build.code(module, 3, Op.CONST_INT, 1);
        Build.code(module, 0, Build.join(Build.repeat(20, Op.CONST_INT, 1), new int[] {Op.CALL, 3}));
        Due.answers("no room for the result", 2007, module::check);
    }

    private static void orderOfFunctions() {
        FlatModule module = new FlatModule();
        module.function(3, 0, 0, 0, Op.INT);
        module.function(1, 0, 0, 0, Op.NONE);
        Build.code(module, 1, Op.BLOCK, Op.NONE, Op.DROP, 0);
        Due.answers("the first function with a fault", 10102, module::check);
        Due.answers("not checked", 0, () -> module.count(1));
        Due.answers("the same again", 10102, module::check);
        module.erase(1);
        Due.answers("the next one", 30002, module::check);
        Due.fails("a faultless function of a module with faults", Due.STATE, () -> module.run(1, 0, 0, 0, 1));
        Build.code(module, 3, Op.CONST_INT, 1);
        Due.answers("no fault", 0, module::check);
        Due.answers("no fault again", 0, module::check);
        Due.answers("checked", 1, () -> module.count(1));
    }
}
