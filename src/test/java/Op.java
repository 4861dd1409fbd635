/** The types and instructions by name, for tests that read well. */
final class Op {
    static final int INT = 0;
    static final int LONG = 1;
    static final int FLOAT = 2;
    static final int DOUBLE = 3;
    static final int NONE = 4;

    static final int CONST_INT = 0;
    static final int CONST_LONG = 1;
    static final int CONST_FLOAT = 2;
    static final int CONST_DOUBLE = 3;
    static final int GET = 4;
    static final int SET = 5;
    static final int KEEP = 6;
    static final int GET_GLOBAL = 7;
    static final int SET_GLOBAL = 8;
    static final int DROP = 9;
    static final int CHOOSE = 10;
    static final int ADD = 11;
    static final int SUBTRACT = 12;
    static final int MULTIPLY = 13;
    static final int DIVIDE = 14;
    static final int REST = 15;
    static final int AND = 16;
    static final int SHIFT_LEFT = 17;
    static final int BELOW = 18;
    static final int EQUAL = 19;
    static final int CONVERT = 20;
    static final int BLOCK = 21;
    static final int LOOP = 22;
    static final int IF = 23;
    static final int ELSE = 24;
    static final int END = 25;
    static final int JUMP = 26;
    static final int JUMP_IF = 27;
    static final int RETURN = 28;
    static final int CALL = 29;
    static final int TRAP = 30;

    private Op() {
    }
}
