/**
 * A module of functions in structured stack code: checked so that every value has its type, made into flat code for
 * numbered registers, and run with fuel, calls, globals and traps.
 */
public final class FlatModule {
    private static final int INT = 0;
    private static final int LONG = 1;
    private static final int FLOAT = 2;
    private static final int NONE = 4;
    /** The type of a value that only dead code takes: nobody has put it there, so it passes for every type. */
    private static final int ANY = 5;

    private static final int INT_CONSTANT = 0;
    private static final int LONG_CONSTANT = 1;
    private static final int FLOAT_CONSTANT = 2;
    private static final int DOUBLE_CONSTANT = 3;
    private static final int GET = 4;
    private static final int SET = 5;
    private static final int KEEP = 6;
    private static final int GET_GLOBAL = 7;
    private static final int SET_GLOBAL = 8;
    private static final int DROP = 9;
    private static final int CHOOSE = 10;
    private static final int ADD = 11;
    private static final int SUBTRACT = 12;
    private static final int MULTIPLY = 13;
    private static final int DIVIDE = 14;
    private static final int REST = 15;
    private static final int AND = 16;
    private static final int SHIFT_LEFT = 17;
    private static final int BELOW = 18;
    private static final int EQUAL = 19;
    private static final int CONVERT = 20;
    private static final int BLOCK = 21;
    private static final int LOOP = 22;
    private static final int IF = 23;
    private static final int ELSE = 24;
    private static final int END = 25;
    private static final int JUMP = 26;
    private static final int JUMP_IF = 27;
    private static final int RETURN = 28;
    private static final int CALL = 29;
    private static final int TRAP = 30;

    private static final int BAD_NUMBER = 1;
    private static final int NO_VALUE = 2;
    private static final int WRONG_TYPE = 3;
    private static final int TOO_MUCH_LEFT = 4;
    private static final int BAD_NESTING = 5;
    private static final int NO_ELSE = 6;
    private static final int TOO_DEEP = 7;

    private static final int MOST_FUNCTIONS = 4;
    private static final int MOST_PARAMETERS = 3;
    private static final int MOST_MORE_LOCALS = 3;
    private static final int MOST_LOCALS = MOST_PARAMETERS + MOST_MORE_LOCALS;
    private static final int MOST_CODE = 40;
    private static final int MOST_GLOBALS = 4;
    private static final int MOST_FRAMES = 8;
    private static final int MOST_VALUES = 20;
    private static final int MOST_CALLS = 8;
    private static final int MOST_FUEL = 300;
    private static final int LARGEST_FRACTION = 1000000000;

    private final Function[] functions = new Function[MOST_FUNCTIONS];
    private final Checker checker = new Checker();
    private final Machine machine = new Machine();
    private boolean checked;

    public FlatModule() {
        for (int f = 0; f < MOST_FUNCTIONS; f++) {
            functions[f] = new Function();
        }
    }

    public void function(int f, int n, int m, int types, int result) throws IllegalArgumentException {
        if (!isWithin(f, MOST_FUNCTIONS - 1) || !isWithin(n, MOST_PARAMETERS) || !isWithin(m, MOST_MORE_LOCALS)
                || !isWithin(result, NONE)) {
            throw new IllegalArgumentException();
        }
        functions[f].declare(n, m, types, result);
        checked = false;
    }

    public int emit(int f, int op, int a) throws IllegalArgumentException, IllegalStateException {
        if (!isThere(f) || !isWithin(op, TRAP)) {
            throw new IllegalArgumentException();
        }
        if (functions[f].length >= MOST_CODE) {
            throw new IllegalStateException();
        }
        functions[f].append(op, a);
        checked = false;
        return functions[f].length;
    }

    public void erase(int f) throws IllegalArgumentException {
        if (!isThere(f)) {
            throw new IllegalArgumentException();
        }
        functions[f].length = 0;
        checked = false;
    }

    public int check() {
        checked = false;
        for (int f = 0; f < MOST_FUNCTIONS; f++) {
            int fault = functions[f].there ? checker.firstFault(functions, f) : 0;
            if (fault != 0) {
                return 10000 * f + fault;
            }
        }
        checked = true;
        return 0;
    }

    public double run(int f, double x, double y, double z, int fuel) throws IllegalArgumentException,
            IllegalStateException, ArithmeticException, UnsupportedOperationException {
        if (!isThere(f) || fuel < 1 || fuel > MOST_FUEL) {
            throw new IllegalArgumentException();
        }
        if (!checked) {
            throw new IllegalStateException();
        }
        machine.begin(functions, f);
        machine.pass(0, x);
        machine.pass(1, y);
        machine.pass(2, z);
        machine.work(fuel);
        return machine.result(functions[f]);
    }

    public double global(int g) throws IllegalArgumentException {
        if (!isWithin(g, MOST_GLOBALS - 1)) {
            throw new IllegalArgumentException();
        }
        return machine.valueOfGlobal(g);
    }

    public int count(int what) {
        switch (what) {
            case 0:
                return functionsThere();
            case 1:
                return checked ? 1 : 0;
            case 2:
                return machine.used;
            case 3:
                return machine.deepest;
            default:
                return isWithin(what - 10, MOST_FUNCTIONS - 1) ? functions[what - 10].length : -1;
        }
    }

    private int functionsThere() {
        int there = 0;
        for (int f = 0; f < MOST_FUNCTIONS; f++) {
            if (functions[f].there) {
                there++;
            }
        }
        return there;
    }

    private boolean isThere(int f) {
        return isWithin(f, MOST_FUNCTIONS - 1) && functions[f].there;
    }

    private static boolean isWithin(int number, int most) {
        return number >= 0 && number <= most;
    }

    /** A function as it was given, and the flat code that the latest check made of it. */
    private static final class Function {
        boolean there;
        int parameters;
        int locals;
        int result;
        int length;
        final int[] types = new int[MOST_LOCALS];
        final int[] ops = new int[MOST_CODE];
        final int[] numbers = new int[MOST_CODE];
        final FlatCode flat = new FlatCode();

        void declare(int n, int m, int typeBits, int resultType) {
            there = true;
            parameters = n;
            locals = n + m;
            result = resultType;
            length = 0;
            for (int local = 0; local < locals; local++) {
                types[local] = (typeBits >> (2 * local)) & 3;
            }
        }

        void append(int op, int a) {
            ops[length] = op;
            numbers[length] = a;
            length++;
        }
    }

    /**
     * What is run: a row for each instruction that takes fuel, and for no other, so that steps and fuel are one. Every
     * value has a register: first the locals, then the places of the stack from the bottom on.
     */
    private static final class FlatCode {
        static final int NOWHERE = -1;

        int length;
        final int[] ops = new int[MOST_CODE];
        final int[] numbers = new int[MOST_CODE];
        /** The register of the first value that is taken, which is that of the value that is put, too. */
        final int[] registers = new int[MOST_CODE];
        /** The register that a jump brings its value to; NOWHERE: it brings none. */
        final int[] homes = new int[MOST_CODE];
        final int[] targets = new int[MOST_CODE];
        /** The frame whose end a jump still waits for; NOWHERE: its target is known. */
        final int[] awaited = new int[MOST_CODE];

        int add(int op, int a, int register) {
            int row = length;
            ops[row] = op;
            numbers[row] = a;
            registers[row] = register;
            homes[row] = NOWHERE;
            targets[row] = NOWHERE;
            awaited[row] = NOWHERE;
            length++;
            return row;
        }

        void sendHere(int row) {
            if (row != NOWHERE) {
                targets[row] = length;
            }
        }

        void sendHereAllFor(int frame) {
            for (int row = 0; row < length; row++) {
                if (awaited[row] == frame) {
                    targets[row] = length;
                    awaited[row] = NOWHERE;
                }
            }
        }
    }

    private static final class Frame {
        static final int CODE_ITSELF = 0;

        /** What opened it, ELSE once that has come, or CODE_ITSELF. */
        int kind;
        int gives;
        int base;
        /** The row that a jump to a LOOP goes to. */
        int start;
        /** The row of the IF. */
        int branch;
        boolean openedInLiveCode;
        /** Behind a jump, a return or a trap: no run comes there. */
        boolean dead;

        void open(int opener, int type, int height, int row, boolean live) {
            kind = opener;
            gives = type;
            base = height;
            start = row;
            branch = FlatCode.NOWHERE;
            openedInLiveCode = live;
            dead = false;
        }

        int neededByJump() {
            return kind == LOOP ? NONE : gives;
        }
    }

    /** Follows the types of all values through a function's code, and makes its flat code on the way. */
    private static final class Checker {
        /** None before the first check. */
        private Function[] functions = new Function[0];
        private int current;
        private int fault;
        private final int[] types = new int[MOST_VALUES];
        private int height;
        /** The code itself first, then the open frames: frames[open] is the innermost one. */
        private final Frame[] frames = new Frame[MOST_FRAMES + 1];
        private int open;

        Checker() {
            for (int i = 0; i <= MOST_FRAMES; i++) {
                frames[i] = new Frame();
            }
        }

        /** Answers 0, or 100 * the number of the instruction + the fault. */
        int firstFault(Function[] module, int f) {
            functions = module;
            current = f;
            fault = 0;
            height = 0;
            open = 0;
            subject().flat.length = 0;
            frames[0].open(Frame.CODE_ITSELF, subject().result, 0, 0, true);
            for (int i = 0; i < subject().length; i++) {
                instruction(subject().ops[i], subject().numbers[i]);
                if (fault != 0) {
                    return 100 * i + fault;
                }
            }
            endOfCode();
            return fault == 0 ? 0 : 100 * subject().length + fault;
        }

        private Function subject() {
            return functions[current];
        }

        private void instruction(int op, int a) {
            if (!isAsSaid(op, a)) {
                fault = BAD_NUMBER;
            } else if (op <= CHOOSE) {
                moveValues(op, a);
            } else if (op <= CONVERT) {
                compute(op, a);
            } else if (op <= END) {
                nest(op, a);
            } else {
                leave(op, a);
            }
        }

        private boolean isAsSaid(int op, int a) {
            switch (op) {
                case GET:
                case SET:
                case KEEP:
                    return isWithin(a, subject().locals - 1);
                case GET_GLOBAL:
                case SET_GLOBAL:
                    return isWithin(a, MOST_GLOBALS - 1);
                case ADD:
                case SUBTRACT:
                case MULTIPLY:
                case DIVIDE:
                case BELOW:
                case EQUAL:
                    return isWithin(a, NONE - 1);
                case REST:
                case AND:
                case SHIFT_LEFT:
                    return isWithin(a, LONG);
                case CONVERT:
                    return isWithin(a, 15);
                case BLOCK:
                case LOOP:
                case IF:
                    return isWithin(a, NONE);
                case JUMP:
                case JUMP_IF:
                    return isWithin(a, open);
                case CALL:
                    return isWithin(a, functions.length - 1) && functions[a].there;
                default:
                    return true;
            }
        }

        private void moveValues(int op, int a) {
            switch (op) {
                case GET:
                    addRow(op, a);
                    put(subject().types[a]);
                    break;
                case SET:
                    take(subject().types[a]);
                    addRow(op, a);
                    break;
                case KEEP:
                    take(subject().types[a]);
                    addRow(op, a);
                    put(subject().types[a]);
                    break;
                case GET_GLOBAL:
                    addRow(op, a);
                    put(a);
                    break;
                case SET_GLOBAL:
                    take(a);
                    addRow(op, a);
                    break;
                case DROP:
                    take(ANY);
                    addRow(op, a);
                    break;
                case CHOOSE:
                    take(INT);
                    int type = take(take(ANY));
                    addRow(op, a);
                    put(type);
                    break;
                default:
                    // A constant's op is the number of its type.
                    addRow(op, a);
                    put(op);
            }
        }

        private void compute(int op, int a) {
            if (op == CONVERT) {
                take(a / 4);
                addRow(op, a);
                put(a % 4);
            } else {
                take(a);
                take(a);
                addRow(op, a);
                put(op == BELOW || op == EQUAL ? INT : a);
            }
        }

        private void nest(int op, int a) {
            switch (op) {
                case IF:
                    take(INT);
                    int branch = addRow(op, a);
                    openFrame(op, a);
                    frames[open].branch = branch;
                    break;
                case ELSE:
                    turnToElse();
                    break;
                case END:
                    closeFrame();
                    break;
                default:
                    openFrame(op, a);
            }
        }

        private void openFrame(int op, int type) {
            if (fault == 0 && open == MOST_FRAMES) {
                fault = TOO_DEEP;
            }
            if (fault == 0) {
                boolean live = isLive();
                open++;
                frames[open].open(op, type, height, subject().flat.length, live);
            }
        }

        private void turnToElse() {
            Frame frame = frames[open];
            if (frame.kind != IF) {
                fault = BAD_NESTING;
                return;
            }
            takeJustWhatIsGiven();
            int row = addRow(JUMP, 0);
            if (row != FlatCode.NOWHERE) {
                subject().flat.awaited[row] = open;
            }
            subject().flat.sendHere(frame.branch);
            frame.kind = ELSE;
            frame.dead = false;
        }

        private void closeFrame() {
            if (open == 0) {
                fault = BAD_NESTING;
                return;
            }
            Frame frame = frames[open];
            takeJustWhatIsGiven();
            if (fault == 0 && frame.kind == IF && frame.gives != NONE) {
                fault = NO_ELSE;
            }
            if (frame.kind == IF) {
                subject().flat.sendHere(frame.branch);
            }
            subject().flat.sendHereAllFor(open);
            open--;
            put(frame.gives);
        }

        private void endOfCode() {
            if (open != 0) {
                fault = BAD_NESTING;
                return;
            }
            takeJustWhatIsGiven();
            subject().flat.sendHereAllFor(0);
        }

        private void takeJustWhatIsGiven() {
            take(frames[open].gives);
            if (fault == 0 && height > frames[open].base) {
                fault = TOO_MUCH_LEFT;
            }
        }

        private void leave(int op, int a) {
            switch (op) {
                case JUMP:
                    jump(op, open - a);
                    die();
                    break;
                case JUMP_IF:
                    take(INT);
                    jump(op, open - a);
                    put(frames[open - a].neededByJump());
                    break;
                case RETURN:
                    jump(JUMP, 0);
                    die();
                    break;
                case CALL:
                    callFunction(a);
                    break;
                default:
                    addRow(op, a);
                    die();
            }
        }

        private void jump(int op, int frameNumber) {
            Frame frame = frames[frameNumber];
            int needed = frame.neededByJump();
            take(needed);
            int row = addRow(op, 0);
            if (row == FlatCode.NOWHERE) {
                return;
            }
            FlatCode flat = subject().flat;
            if (needed != NONE) {
                flat.homes[row] = subject().locals + frame.base;
            }
            if (frame.kind == LOOP) {
                flat.targets[row] = frame.start;
            } else {
                flat.awaited[row] = frameNumber;
            }
        }

        private void callFunction(int a) {
            Function callee = functions[a];
            for (int parameter = callee.parameters - 1; parameter >= 0; parameter--) {
                take(callee.types[parameter]);
            }
            addRow(CALL, a);
            put(callee.result);
        }

        private void die() {
            height = frames[open].base;
            frames[open].dead = true;
        }

        private boolean isLive() {
            return frames[open].openedInLiveCode && !frames[open].dead;
        }

        /** Dead code gets no row: no run needs it, and its stack has no places that registers could stand for. */
        private int addRow(int op, int a) {
            return isLive() ? subject().flat.add(op, a, subject().locals + height) : FlatCode.NOWHERE;
        }

        /** Answers the type of what was taken, so far as it is known. */
        private int take(int wanted) {
            if (fault != 0 || wanted == NONE) {
                return wanted;
            }
            if (height == frames[open].base) {
                if (!frames[open].dead) {
                    fault = NO_VALUE;
                }
                return wanted;
            }
            height--;
            int found = types[height];
            if (found == ANY) {
                return wanted;
            }
            if (wanted != ANY && wanted != found) {
                fault = WRONG_TYPE;
            }
            return found;
        }

        private void put(int type) {
            if (fault != 0 || type == NONE) {
                return;
            }
            if (height == MOST_VALUES) {
                fault = TOO_DEEP;
                return;
            }
            types[height] = type;
            height++;
        }
    }

    /** Runs flat code. Each open call has a window of registers of its own; the globals lie behind all windows. */
    private static final class Machine {
        private static final int WINDOW = MOST_LOCALS + MOST_VALUES;
        private static final int GLOBALS = MOST_CALLS * WINDOW;

        int used;
        int deepest;
        /** None before the first run. */
        private Function[] functions = new Function[0];
        /** A register is in both rows: its type tells which of them holds the value (a FLOAT is held as a double). */
        private final long[] wholes = new long[GLOBALS + MOST_GLOBALS];
        private final double[] fractions = new double[GLOBALS + MOST_GLOBALS];
        private int depth;
        private int base;
        private final int[] called = new int[MOST_CALLS];
        private final int[] nextRows = new int[MOST_CALLS];

        void begin(Function[] module, int f) {
            functions = module;
            used = 0;
            deepest = 0;
            depth = 0;
            enter(f);
        }

        void pass(int parameter, double value) {
            if (parameter >= functions[called[0]].parameters) {
                return;
            }
            switch (functions[called[0]].types[parameter]) {
                case INT:
                    wholes[parameter] = (int) value;
                    break;
                case LONG:
                    wholes[parameter] = (long) value;
                    break;
                case FLOAT:
                    fractions[parameter] = Arithmetic.asFloat(value);
                    break;
                default:
                    fractions[parameter] = value;
            }
        }

        void work(int fuel) {
            leaveWhatHasEnded();
            while (depth > 0 && used < fuel) {
                used++;
                step();
                leaveWhatHasEnded();
            }
            if (depth > 0) {
                throw new IllegalStateException();
            }
        }

        double result(Function function) {
            return function.result == NONE ? 0.0 : valueOf(function.locals, function.result);
        }

        double valueOfGlobal(int g) {
            return valueOf(GLOBALS + g, g);
        }

        private double valueOf(int register, int type) {
            return type <= LONG ? (double) wholes[register] : fractions[register];
        }

        private void enter(int f) {
            called[depth] = f;
            nextRows[depth] = 0;
            base = depth * WINDOW;
            depth++;
            deepest = Math.max(deepest, depth);
            for (int local = 0; local < functions[f].locals; local++) {
                wholes[base + local] = 0;
                fractions[base + local] = 0.0;
            }
        }

        private void leaveWhatHasEnded() {
            while (depth > 0 && nextRows[depth - 1] >= functions[called[depth - 1]].flat.length) {
                depth--;
                if (depth > 0) {
                    backToCaller(functions[called[depth]]);
                }
            }
        }

        private void backToCaller(Function callee) {
            int from = base + callee.locals;
            base = base - WINDOW;
            if (callee.result != NONE) {
                FlatCode flat = functions[called[depth - 1]].flat;
                copy(from, base + flat.registers[nextRows[depth - 1] - 1]);
            }
        }

        private void step() {
            FlatCode flat = functions[called[depth - 1]].flat;
            int row = nextRows[depth - 1];
            nextRows[depth - 1] = row + 1;
            int op = flat.ops[row];
            int a = flat.numbers[row];
            int register = base + flat.registers[row];
            if (op <= CHOOSE) {
                moveValues(op, a, register);
            } else if (op <= CONVERT) {
                compute(op, a, register);
            } else {
                goOnElsewhere(flat, row, register);
            }
        }

        private void moveValues(int op, int a, int register) {
            switch (op) {
                case INT_CONSTANT:
                case LONG_CONSTANT:
                    wholes[register] = a;
                    break;
                case FLOAT_CONSTANT:
                    fractions[register] = (float) a * 0.125f;
                    break;
                case DOUBLE_CONSTANT:
                    fractions[register] = a * 0.125;
                    break;
                case GET:
                    copy(base + a, register);
                    break;
                case SET:
                case KEEP:
                    copy(register, base + a);
                    break;
                case GET_GLOBAL:
                    copy(GLOBALS + a, register);
                    break;
                case SET_GLOBAL:
                    copy(register, GLOBALS + a);
                    break;
                case CHOOSE:
                    if (wholes[register + 2] == 0) {
                        copy(register + 1, register);
                    }
                    break;
                default:
                    // A DROP leaves its value where the next one is put.
            }
        }

        private void copy(int from, int to) {
            wholes[to] = wholes[from];
            fractions[to] = fractions[from];
        }

        private void compute(int op, int a, int register) {
            if (op == CONVERT) {
                convert(a / 4, a % 4, register);
            } else if (op == BELOW || op == EQUAL) {
                wholes[register] = holds(op, a, register) ? 1 : 0;
            } else if (a <= LONG) {
                wholes[register] = Arithmetic.ofWholes(op, a, wholes[register], wholes[register + 1]);
            } else {
                fractions[register] = Arithmetic.ofFractions(op, a, fractions[register], fractions[register + 1]);
            }
        }

        private void convert(int from, int to, int register) {
            if (to <= LONG) {
                if (from > LONG) {
                    wholes[register] = to == INT ? (int) fractions[register] : (long) fractions[register];
                } else if (to == INT) {
                    wholes[register] = (int) wholes[register];
                }
                return;
            }
            if (from <= LONG) {
                // A LONG becomes a FLOAT at once: by way of a double it could be rounded twice.
                fractions[register] = to == FLOAT ? (float) wholes[register] : (double) wholes[register];
            } else if (to == FLOAT) {
                fractions[register] = Arithmetic.asFloat(fractions[register]);
            }
            Arithmetic.trapIfTooLarge(fractions[register]);
        }

        private boolean holds(int op, int type, int register) {
            if (type <= LONG) {
                return op == BELOW ? wholes[register] < wholes[register + 1] : wholes[register] == wholes[register + 1];
            }
            return op == BELOW ? fractions[register] < fractions[register + 1]
                    : fractions[register] == fractions[register + 1];
        }

        private void goOnElsewhere(FlatCode flat, int row, int register) {
            switch (flat.ops[row]) {
                case IF:
                    if (wholes[register] == 0) {
                        nextRows[depth - 1] = flat.targets[row];
                    }
                    break;
                case JUMP:
                    jump(flat, row, register);
                    break;
                case JUMP_IF:
                    // The INT lies behind the value that goes along, if one does.
                    if (wholes[flat.homes[row] == FlatCode.NOWHERE ? register : register + 1] != 0) {
                        jump(flat, row, register);
                    }
                    break;
                case CALL:
                    callFunction(flat.numbers[row], register);
                    break;
                default:
                    throw new UnsupportedOperationException();
            }
        }

        private void jump(FlatCode flat, int row, int register) {
            if (flat.homes[row] != FlatCode.NOWHERE) {
                copy(register, base + flat.homes[row]);
            }
            nextRows[depth - 1] = flat.targets[row];
        }

        private void callFunction(int f, int register) {
            if (depth == MOST_CALLS) {
                throw new IllegalStateException();
            }
            enter(f);
            for (int parameter = 0; parameter < functions[f].parameters; parameter++) {
                copy(register + parameter, base + parameter);
            }
        }
    }

    private static final class Arithmetic {
        /** Of INTs, too: cut to an INT, the outcome is the one that INTs would have had, wrapped. */
        static long ofWholes(int op, int type, long a, long b) {
            long outcome = wholeOutcome(op, a, b, type == INT ? 31 : 63);
            return type == INT ? (int) outcome : outcome;
        }

        private static long wholeOutcome(int op, long a, long b, int shiftMask) {
            switch (op) {
                case ADD:
                    return a + b;
                case SUBTRACT:
                    return a - b;
                case MULTIPLY:
                    return a * b;
                case DIVIDE:
                    return a / divisor(b);
                case REST:
                    return a % divisor(b);
                case AND:
                    return a & b;
                default:
                    return a << (int) (b & shiftMask);
            }
        }

        private static long divisor(long b) {
            if (b == 0) {
                throw new ArithmeticException();
            }
            return b;
        }

        static double ofFractions(int op, int type, double a, double b) {
            if (op == DIVIDE && b == 0.0) {
                throw new ArithmeticException();
            }
            if (a != a || b != b) {
                // Only a PARAMETER can be no number: it stays so without arithmetic, which may not answer NaN.
                return a != a ? a : b;
            }
            if (isEndless(a) || isEndless(b) && op != DIVIDE) {
                // The outcome is endless, too, or no number at all, which arithmetic may not answer.
                throw new ArithmeticException();
            }
            // Of FLOATs, too: a double has more than twice their digits, so that rounding twice is rounding once.
            double outcome = fractionOutcome(op, a, b);
            if (type == FLOAT) {
                outcome = (float) outcome;
            }
            trapIfTooLarge(outcome);
            return outcome;
        }

        private static double fractionOutcome(int op, double a, double b) {
            switch (op) {
                case ADD:
                    return a + b;
                case SUBTRACT:
                    return a - b;
                case MULTIPLY:
                    return a * b;
                default:
                    return a / b;
            }
        }

        static double asFloat(double value) {
            return value != value ? value : (float) value;
        }

        static void trapIfTooLarge(double value) {
            if (value > LARGEST_FRACTION || value < -LARGEST_FRACTION) {
                throw new ArithmeticException();
            }
        }

        private static boolean isEndless(double value) {
            return value > 1.7976931348623157E308 || value < -1.7976931348623157E308;
        }
    }
}
