/** Terms: frames that are ended too early, too often or never, what they give, dead code, and the two limits. */
public final class FrameEdgesTest {
    private static final int[] OPENERS = {Op.BLOCK, Op.LOOP, Op.IF};
    private static final int[] LEAVERS = {Op.JUMP, Op.RETURN, Op.TRAP};
    private static final int[] END = {Op.END, 0};
    private static final int[] ELSE = {Op.ELSE, 0};
    private static final int[] NOTHING = {};

    public static void main(String[] args) {
        whatAFrameGives();
        whatAJumpNeeds();
        whatAJumpToALoopNeeds();
        elseElsewhere();
        endWithoutFrame();
        framesOpenAtTheEnd();
        stackAtTheEndOfTheCode();
        ifWithoutElse();
        emptiedBehindALeaver();
        deadUntilElse();
        deadUntilEnd();
        deadUntilTheEndOfTheCode();
        aliveBehindOthers();
        mostFrames();
        mostValues();
        whatComesFirst();
        Due.end();
    }

    private static int check(int result, int[]... parts) {
        return Build.simple(result, Build.join(parts)).check();
    }

    private static void due(String what, int want, int result, int[]... parts) {
        Due.answers(what, want, () -> check(result, parts));
    }

    private static int[] code(int... opsAndNumbers) {
        return opsAndNumbers;
    }

    /** A value for the IF, or nothing: then the opener. */
    private static int[] open(int opener, int gives) {
        return opener == Op.IF ? code(Op.CONST_INT, 1, Op.IF, gives) : code(opener, gives);
    }

    private static int length(int[]... parts) {
        return Build.join(parts).length / 2;
    }

    private static void whatAFrameGives() {
        Due.about("At ELSE and END the FRAME's stack must be just what it gives: FAULT 2 or 3, or 4 if there's more");
        for (int opener : OPENERS) {
            for (int gives = 0; gives < 4; gives++) {
                int[] opened = open(opener, gives);
                int[] value = {gives, 1};
                int[] other = {(gives + 1) % 4, 1};
                int[][] rows = {NOTHING, other, code(value[0], 1, value[0], 1), code(other[0], 1, value[0], 1),
                    code(value[0], 1, other[0], 1)};
                int[] faults = {2, 3, 4, 4, 3};
                for (int i = 0; i < rows.length; i++) {
                    int at = 100 * length(opened, rows[i]);
                    due("END", at + faults[i], gives, opened, rows[i], END);
                    if (opener == Op.IF) {
                        due("ELSE", at + faults[i], gives, opened, rows[i], ELSE, value, END);
                        due("END behind ELSE", at + 200 + faults[i], gives, opened, value, ELSE, rows[i], END);
                    }
                }
                due("just that, at END", 0, gives, opened, value, opener == Op.IF ? ELSE : NOTHING,
                        opener == Op.IF ? value : NOTHING, END);
            }
            int[] opened = open(opener, Op.NONE);
            due("nothing of nothing", 0, Op.NONE, opened, END);
            due("something of nothing", 100 * length(opened) + 104, Op.NONE, opened, code(Op.CONST_INT, 1), END);
        }
        Due.about("(at END) that is put on the stack outside");
        for (int gives = 0; gives < 4; gives++) {
            for (int result = 0; result < 4; result++) {
                due(gives + " given as " + result, gives == result ? 0 : 303, result, code(Op.BLOCK, gives, gives, 1),
                        END);
            }
        }
        due("only that", 302, Op.INT, code(Op.CONST_INT, 1, Op.BLOCK, Op.NONE), END, code(Op.ADD, Op.INT));
        due("beside what was there", 0, Op.INT, code(Op.CONST_INT, 1, Op.BLOCK, Op.INT, Op.CONST_INT, 1), END,
                code(Op.ADD, Op.INT));
    }

    private static void whatAJumpNeeds() {
        Due.about("A JUMP needs on the stack, and takes (27: takes and puts back), what its FRAME gives");
        for (int opener : new int[] {Op.BLOCK, Op.IF}) {
            for (int gives = 0; gives < 4; gives++) {
                int[] opened = open(opener, gives);
                int[] rest = opener == Op.IF ? code(Op.ELSE, 0, gives, 1, Op.END, 0) : END;
                int[] value = {gives, 1};
                int[] other = {(gives + 1) % 4, 1};
                int[] jump = {Op.JUMP, 0};
                int[] jumpIf = {Op.CONST_INT, 0, Op.JUMP_IF, 0};
                int at = 100 * length(opened);
                due("JUMP with it", 0, gives, opened, value, jump, rest);
                due("JUMP with it over another", 0, gives, opened, other, value, jump, rest);
                due("JUMP without it", at + 2, gives, opened, jump, rest);
                due("JUMP with another type", at + 103, gives, opened, other, jump, rest);
                due("JUMP IF with it", 0, gives, opened, value, jumpIf, rest);
                due("JUMP IF puts it back", at + 303, gives, opened, value, jumpIf, code(Op.SET_GLOBAL, other[0]));
                due("JUMP IF puts nothing more back", at + 404, gives, opened, other, value, jumpIf, rest);
                due("JUMP IF without it", at + 102, gives, opened, jumpIf, rest);
                due("JUMP IF with another type", at + 203, gives, opened, other, jumpIf, rest);
            }
        }
        Due.about("the CODE itself gives the RESULT");
        for (int open = 0; open <= 2; open++) {
            int[] frames = Build.repeat(open, Op.BLOCK, Op.NONE);
            int[] ends = Build.repeat(open, Op.END, 0);
            int[] result = open == 0 ? NOTHING : code(Op.CONST_LONG, 1);
            due("JUMP with it", 0, Op.LONG, frames, code(Op.CONST_LONG, 1, Op.JUMP, open), ends, result);
            due("JUMP without it", 100 * open + 2, Op.LONG, frames, code(Op.JUMP, open), ends, result);
            due("JUMP with another", 100 * open + 103, Op.LONG, frames, code(Op.CONST_INT, 1, Op.JUMP, open), ends);
            due("JUMP without a RESULT", 0, Op.NONE, frames, code(Op.JUMP, open), ends);
        }
    }

    private static void whatAJumpToALoopNeeds() {
        Due.about("of a LOOP nothing");
        for (int gives = 0; gives < 4; gives++) {
            int[] value = {gives, 1};
            due("JUMP", 0, gives, code(Op.LOOP, gives, Op.JUMP, 0), END);
            due("JUMP IF", 0, gives, code(Op.LOOP, gives, Op.CONST_INT, 0, Op.JUMP_IF, 0), value, END);
            due("JUMP IF puts nothing", 302, gives, code(Op.LOOP, gives, Op.CONST_INT, 0, Op.JUMP_IF, 0), END);
            due("JUMP IF leaves what is there", 0, gives, code(Op.LOOP, gives), value,
                    code(Op.CONST_INT, 0, Op.JUMP_IF, 0), END);
            due("but its END gives", 102, gives, code(Op.LOOP, gives), END);
        }
    }

    private static void elseElsewhere() {
        Due.about("ELSE elsewhere");
        int[] nothing = code(Op.CONST_INT, 1, Op.IF, Op.NONE);
        due("in the CODE itself", 5, Op.NONE, ELSE);
        due("in a BLOCK", 105, Op.NONE, code(Op.BLOCK, Op.NONE), ELSE, END);
        due("in a LOOP", 105, Op.NONE, code(Op.LOOP, Op.NONE), ELSE, END);
        due("behind the END of the IF", 305, Op.NONE, nothing, END, ELSE);
        due("in a BLOCK inside an IF", 305, Op.NONE, nothing, code(Op.BLOCK, Op.NONE), ELSE, END, END);
        due("a second one", 305, Op.NONE, nothing, ELSE, ELSE, END);
        due("behind a BLOCK inside an IF", 0, Op.NONE, nothing, code(Op.BLOCK, Op.NONE), END, ELSE, END);
        due("of an IF inside an ELSE", 0, Op.NONE, nothing, ELSE, nothing, ELSE, END, END);
        due("before the stack is looked at", 205, Op.NONE, code(Op.BLOCK, Op.INT, Op.CONST_LONG, 1), ELSE, END);
        due("in dead code", 205, Op.NONE, code(Op.BLOCK, Op.NONE, Op.TRAP, 0), ELSE, END);
    }

    private static void endWithoutFrame() {
        Due.about("END without FRAME");
        for (int open = 0; open <= 8; open++) {
            int[] frames = Build.repeat(open, Op.BLOCK, Op.NONE);
            due(open + " ended", 0, Op.NONE, frames, Build.repeat(open, Op.END, 0));
            due(open + " ended, and one more", 200 * open + 5, Op.NONE, frames, Build.repeat(open + 1, Op.END, 0));
        }
        due("with just the RESULT there", 105, Op.INT, code(Op.CONST_INT, 1), END);
        due("before the stack is looked at: too little", 5, Op.INT, END);
        due("before the stack is looked at: another type", 105, Op.INT, code(Op.CONST_LONG, 1), END);
        due("before the stack is looked at: too much", 105, Op.NONE, code(Op.CONST_LONG, 1), END);
        due("in dead code", 105, Op.NONE, code(Op.TRAP, 0), END);
    }

    private static void framesOpenAtTheEnd() {
        Due.about("FRAMES open at the end of the CODE: 5");
        for (int opener : OPENERS) {
            for (int open = 1; open <= 8; open++) {
                int[] frames = NOTHING;
                for (int i = 0; i < open; i++) {
                    frames = Build.join(frames, open(opener, Op.NONE));
                }
                int length = length(frames);
                due(open + " open", 100 * length + 5, Op.NONE, frames);
                due("one of " + open + " open", 100 * (length + open - 1) + 5, Op.NONE, frames,
                        Build.repeat(open - 1, Op.END, 0));
            }
        }
        due("an ELSE open", 305, Op.NONE, code(Op.CONST_INT, 1, Op.IF, Op.NONE), ELSE);
        due("before the stack is looked at: too little", 105, Op.INT, code(Op.BLOCK, Op.INT));
        due("before the stack is looked at: another type", 205, Op.INT, code(Op.BLOCK, Op.INT, Op.CONST_LONG, 1));
        due("before the stack is looked at: too much", 205, Op.NONE, code(Op.BLOCK, Op.NONE, Op.CONST_LONG, 1));
        due("before the stack outside", 205, Op.INT, code(Op.CONST_LONG, 1, Op.BLOCK, Op.NONE));
        due("in dead code", 205, Op.INT, code(Op.BLOCK, Op.NONE, Op.TRAP, 0));
    }

    private static void stackAtTheEndOfTheCode() {
        Due.about("there the stack must be just the RESULT (2, 3, 4)");
        for (int result = 0; result < 4; result++) {
            int[] value = {result, 1};
            int[] other = {(result + 1) % 4, 1};
            due("just that", 0, result, value);
            due("nothing", 2, result, NOTHING);
            due("another type", 103, result, other);
            due("one more", 204, result, value, value);
            due("one more of another type", 204, result, other, value);
            due("another type over it", 203, result, value, other);
            due("no RESULT", 104, Op.NONE, value);
        }
        due("nothing of nothing", 0, Op.NONE, NOTHING);
    }

    private static void ifWithoutElse() {
        Due.about("At END of an IF that gives something, without ELSE (seen after its stack): 6");
        for (int gives = 0; gives < 4; gives++) {
            int[] opened = open(Op.IF, gives);
            int[] value = {gives, 1};
            int[] other = {(gives + 1) % 4, 1};
            due("just that", 306, gives, opened, value, END);
            due("nothing", 202, gives, opened, END);
            due("another type", 303, gives, opened, other, END);
            due("more", 404, gives, opened, value, value, END);
            due("dead", 306, gives, opened, code(Op.TRAP, 0), END);
            due("with ELSE", 0, gives, opened, value, ELSE, value, END);
            due("seen before there is no room", 2406, Op.NONE, Build.repeat(20, Op.CONST_INT, 1),
                    code(Op.BLOCK, Op.NONE, Op.TRAP, 0, Op.IF, gives, Op.TRAP, 0), END);
        }
        due("gives nothing", 0, Op.NONE, open(Op.IF, Op.NONE), END);
    }

    private static void emptiedBehindALeaver() {
        Due.about("the FRAME's stack is emptied");
        for (int leaver : LEAVERS) {
            int[] leave = {leaver, 0};
            due("nothing left of two", 0, Op.NONE, Build.repeat(2, Op.CONST_LONG, 1), leave);
            due("what comes then is all there is", 0, Op.INT, code(Op.CONST_LONG, 1, Op.CONST_INT, 1), leave,
                    code(Op.CONST_INT, 1));
            due("and may be too much", 404, Op.INT, code(Op.CONST_INT, 1), leave, Build.repeat(2, Op.CONST_INT, 1));
            due("and may have another type", 303, Op.INT, code(Op.CONST_INT, 1), leave, code(Op.CONST_LONG, 1));
            due("19 of old, 20 of new", 4004, Op.NONE, Build.repeat(19, Op.CONST_LONG, 1), leave,
                    Build.repeat(20, Op.CONST_LONG, 1));
            due("the FRAME's alone", 0, Op.LONG, code(Op.CONST_LONG, 1, Op.BLOCK, Op.NONE, Op.CONST_LONG, 1),
                    leave, END);
        }
    }

    private static void deadUntilElse() {
        Due.about("until the FRAME's ELSE");
        for (int leaver : LEAVERS) {
            int[] opened = code(Op.CONST_INT, 1, Op.IF, Op.NONE, leaver, 0);
            due("before it", 0, Op.NONE, opened, code(Op.DROP, 0), ELSE, END);
            due("behind it", 402, Op.NONE, opened, ELSE, code(Op.DROP, 0), END);
            due("behind both, one dead", 502, Op.NONE, opened, ELSE, END, code(Op.DROP, 0));
            due("behind both, both dead", 602, Op.NONE, opened, ELSE, code(leaver, 0), END, code(Op.DROP, 0));
        }
    }

    private static void deadUntilEnd() {
        Due.about("until the FRAME's ELSE or END");
        for (int leaver : LEAVERS) {
            for (int opener : OPENERS) {
                int[] opened = open(opener, Op.NONE);
                int at = 100 * length(opened);
                due("before it", 0, Op.NONE, opened, code(leaver, 0, Op.DROP, 0), END);
                due("behind it", at + 202, Op.NONE, opened, code(leaver, 0), END, code(Op.DROP, 0));
                due("inside a frame of the dead", at + 202, Op.NONE, opened, code(leaver, 0, Op.BLOCK, Op.NONE,
                        Op.DROP, 0), END, END);
                due("behind a frame of the dead", 0, Op.NONE, opened, code(leaver, 0, Op.BLOCK, Op.NONE), END,
                        code(Op.DROP, 0), END);
                due("behind a dead frame of the dead", 0, Op.NONE, opened, code(leaver, 0, Op.BLOCK, Op.NONE,
                        leaver, 0), END, code(Op.DROP, 0), END);
            }
        }
    }

    private static void deadUntilTheEndOfTheCode() {
        Due.about("or the end of the CODE");
        for (int leaver : LEAVERS) {
            for (int result = 0; result < 4; result++) {
                due("has the RESULT", 0, result, code(result, 1, leaver, 0));
            }
            due("up to the 40th", 0, Op.NONE, code(leaver, 0), Build.repeat(39, Op.DROP, 0));
            due("a number is looked at still", 101, Op.NONE, code(leaver, 0, Op.GET_GLOBAL, 4));
        }
    }

    private static void aliveBehindOthers() {
        Due.about("Behind 26, 28 and 30");
        due("27", 202, Op.NONE, code(Op.CONST_INT, 1, Op.JUMP_IF, 0, Op.DROP, 0));
        FlatModule module = Build.simple(Op.NONE, Op.CALL, 1, Op.DROP, 0);
        module.function(1, 0, 0, 0, Op.NONE);
        Build.code(module, 1, Op.TRAP, 0);
        Due.answers("29", 102, module::check);
    }

    private static void mostFrames() {
        Due.about("At most 8 FRAMES and 20 values: FAULT 7");
        for (int opener : OPENERS) {
            int[] seven = Build.repeat(7, Op.BLOCK, Op.NONE);
            int[] opened = open(opener, Op.NONE);
            due("the 8th", 0, Op.NONE, seven, opened, Build.repeat(8, Op.END, 0));
            due("the 9th", 100 * (7 + length(opened)) + 7, Op.NONE, seven, code(Op.LOOP, Op.NONE), opened,
                    Build.repeat(9, Op.END, 0));
            due("the 9th in dead code", 100 * (8 + length(opened)) + 7, Op.NONE, seven,
                    code(Op.LOOP, Op.NONE, Op.TRAP, 0), opened, Build.repeat(9, Op.END, 0));
            due("8 at once, 16 in all", 0, Op.NONE, seven, opened, Build.repeat(8, Op.END, 0),
                    Build.repeat(8, Op.BLOCK, Op.NONE), Build.repeat(8, Op.END, 0));
        }
        FlatModule two = Build.simple(Op.NONE, Build.join(Build.repeat(8, Op.BLOCK, Op.NONE),
                Build.repeat(8, Op.END, 0)));
        two.function(1, 0, 0, 0, Op.NONE);
        Build.code(two, 1, Build.join(Build.repeat(8, Op.LOOP, Op.NONE), Build.repeat(8, Op.END, 0)));
        Due.answers("8 in each FUNCTION", 0, two::check);
    }

    private static void mostValues() {
        Due.about("At most 8 FRAMES and 20 values: FAULT 7");
        for (int type = 0; type < 4; type++) {
            int[] nineteen = Build.repeat(19, type, 1);
            int[] twenty = Build.repeat(20, type, 1);
            int[] gone = code(Op.TRAP, 0);
            for (int[] putter : new int[][] {{type, 1}, {Op.GET_GLOBAL, type}, {Op.GET, type}, {Op.CALL, 1}}) {
                Due.answers("the 20th by op " + putter[0], 0, full(type, nineteen, putter, gone)::check);
                Due.answers("the 21st by op " + putter[0], 2007, full(type, twenty, putter, gone)::check);
            }
            due("what is taken makes room", 0, Op.NONE, twenty, code(Op.DROP, 0, type, 1), gone);
            due("and no more than that", 2207, Op.NONE, twenty, code(Op.DROP, 0, type, 1, type, 1), gone);
            due("an outcome in place of its values", 0, Op.NONE, twenty, code(Op.CONVERT, 5 * type, Op.EQUAL, type),
                    gone);
            due("frames share the room: the 20th", 0, Op.NONE, Build.repeat(10, type, 1), code(Op.BLOCK, Op.NONE),
                    Build.repeat(10, type, 1), gone, END, gone);
            due("frames share the room: the 21st", 2107, Op.NONE, Build.repeat(10, type, 1), code(Op.BLOCK, Op.NONE),
                    Build.repeat(11, type, 1), gone, END, gone);
            due("given by a frame: the 20th", 0, Op.NONE, nineteen, code(Op.BLOCK, type, type, 1), END, gone);
            due("given by a frame: the 21st", 2207, Op.NONE, twenty, code(Op.BLOCK, type, Op.TRAP, 0), END, gone);
            due("put in dead code: the 20th", 0, Op.NONE, gone, twenty, gone);
            due("put in dead code: the 21st", 2107, Op.NONE, gone, twenty, code(type, 1), gone);
            due("put back: the 20th", 0, Op.NONE, Build.repeat(18, type, 1), code(Op.BLOCK, type, type, 1,
                    Op.CONST_INT, 1, Op.JUMP_IF, 0), END, gone);
        }
    }

    private static FlatModule full(int type, int[]... parts) {
        FlatModule module = Build.withLocals(3, 1, Build.types(0, 1, 2, 3), Op.NONE, Build.join(parts));
        module.function(1, 0, 0, 0, type);
        Build.code(module, 1, type, 1);
        return module;
    }

    private static void whatComesFirst() {
        Due.about("In one INSTRUCTION: a first; then values, the latest first");
        int[] eight = Build.repeat(8, Op.BLOCK, Op.NONE);
        int[] twenty = Build.repeat(20, Op.CONST_INT, 1);
        due("a number before a value that isn't there", 1, Op.NONE, code(Op.ADD, 4));
        due("a number before a value of another type", 201, Op.NONE, code(2, 1, 2, 1, Op.REST, 2));
        due("a number before the 9th FRAME", 801, Op.NONE, eight, code(Op.LOOP, 5));
        due("a number before the 21st value", 2001, Op.NONE, twenty, code(Op.GET, 0));
        due("an IF's value before the 9th FRAME", 802, Op.NONE, eight, code(Op.IF, Op.NONE));
        due("an IF's type before the 9th FRAME", 903, Op.NONE, eight, code(Op.CONST_LONG, 1, Op.IF, Op.NONE));
        due("the 9th FRAME of an IF", 907, Op.NONE, eight, code(Op.CONST_INT, 1, Op.IF, Op.NONE));
        due("the latest is of another type, the first isn't there", 103, Op.NONE, code(Op.CONST_LONG, 1, Op.ADD, 0));
        due("the first is of another type, the latest isn't", 203, Op.NONE, code(1, 1, 0, 1, Op.ADD, 0));
        due("the INT of a JUMP IF is of another type, its value isn't there", 103, Op.INT,
                code(Op.CONST_LONG, 1, Op.JUMP_IF, 0));
    }
}
