import java.util.ArrayDeque;
import java.util.ArrayList;
import java.util.Deque;
import java.util.List;

/**
 * A second, plain reading of CHECKING to compare with: every frame has a stack of its own, types are letters, and the
 * first fault ends all as an exception. It makes no flat code.
 */
final class CheckMirror {
    private static final class Fault extends RuntimeException {
        private static final long serialVersionUID = 1L;
        private final int number;

        Fault(int number) {
            this.number = number;
        }
    }

    private static final class Level {
        final int opener;
        final String gives;
        final Deque<Character> stack = new ArrayDeque<>();
        boolean hasElse;
        boolean dead;

        Level(int opener, String gives) {
            this.opener = opener;
            this.gives = gives;
        }

        String needed() {
            return opener == Op.LOOP ? "" : gives;
        }
    }

    /** What each instruction from ADD to EQUAL may be of. */
    private static final String[] OF = {"ILFD", "ILFD", "ILFD", "ILFD", "IL", "IL", "IL", "ILFD", "ILFD"};
    private static final int CODE = -1;

    private final Mirror.Part[] parts;
    private final Mirror.Part part;
    private final List<Level> levels = new ArrayList<>();

    private CheckMirror(Mirror.Part[] parts, int f) {
        this.parts = parts;
        this.part = parts[f];
    }

    static int check(Mirror.Part[] parts) {
        for (int f = 0; f < 4; f++) {
            if (parts[f] != null) {
                int fault = new CheckMirror(parts, f).fault();
                if (fault != 0) {
                    return 10000 * f + fault;
                }
            }
        }
        return 0;
    }

    private static char letter(int type) {
        return "ILFD".charAt(type);
    }

    private static String optional(int type) {
        return type == Op.NONE ? "" : String.valueOf(letter(type));
    }

    private int fault() {
        levels.add(new Level(CODE, optional(part.result())));
        int at = 0;
        try {
            while (at < part.code().size()) {
                instruction(part.code().get(at)[0], part.code().get(at)[1]);
                at++;
            }
            want(levels.size() == 1, 5);
            takeAll();
            return 0;
        } catch (Fault e) {
            return 100 * at + e.number;
        }
    }

    private static void want(boolean holds, int fault) {
        if (!holds) {
            throw new Fault(fault);
        }
    }

    private Level innermost() {
        return levels.get(levels.size() - 1);
    }

    /** '?' wants any type; in dead code it is also what a value is that nobody put. */
    private char take(char wanted) {
        Level level = innermost();
        if (level.stack.isEmpty()) {
            want(level.dead, 2);
            return wanted;
        }
        char found = level.stack.pop();
        want(found == wanted || found == '?' || wanted == '?', 3);
        return found == '?' ? wanted : found;
    }

    /** Takes the last letter first. */
    private void takeEach(String types) {
        for (int i = types.length() - 1; i >= 0; i--) {
            take(types.charAt(i));
        }
    }

    private void put(String types) {
        for (char type : types.toCharArray()) {
            int values = 0;
            for (Level level : levels) {
                values += level.stack.size();
            }
            want(values < 20, 7);
            innermost().stack.push(type);
        }
    }

    private void takeAll() {
        takeEach(innermost().gives);
        want(innermost().stack.isEmpty(), 4);
    }

    private void die() {
        innermost().stack.clear();
        innermost().dead = true;
    }

    private void instruction(int op, int a) {
        if (op <= Op.CONST_DOUBLE) {
            put(optional(op));
        } else if (op <= Op.KEEP) {
            want(a >= 0 && a < part.types().length, 1);
            place(op - Op.GET, part.types()[a]);
        } else if (op <= Op.SET_GLOBAL) {
            want(a >= 0 && a < 4, 1);
            place(op - Op.GET_GLOBAL, a);
        } else if (op == Op.DROP) {
            take('?');
        } else if (op == Op.CHOOSE) {
            take('I');
            put(String.valueOf(take(take('?'))));
        } else if (op <= Op.EQUAL) {
            want(a >= 0 && a < OF[op - Op.ADD].length(), 1);
            takeEach(optional(a).repeat(2));
            put(op < Op.BELOW ? optional(a) : "I");
        } else if (op == Op.CONVERT) {
            want(a >= 0 && a < 16, 1);
            take(letter(a >> 2));
            put(optional(a & 3));
        } else if (op <= Op.IF) {
            want(a >= 0 && a <= 4, 1);
            open(op, a);
        } else if (op <= Op.END) {
            close(op);
        } else {
            leave(op, a);
        }
    }

    /** Gets (0), sets (1) or keeps (2). */
    private void place(int how, int type) {
        if (how > 0) {
            take(letter(type));
        }
        if (how != 1) {
            put(optional(type));
        }
    }

    private void open(int op, int a) {
        if (op == Op.IF) {
            take('I');
        }
        want(levels.size() <= 8, 7);
        levels.add(new Level(op, optional(a)));
    }

    private void close(int op) {
        Level level = innermost();
        if (op == Op.ELSE) {
            want(level.opener == Op.IF && !level.hasElse, 5);
            takeAll();
            level.hasElse = true;
            level.dead = false;
        } else {
            want(level.opener != CODE, 5);
            takeAll();
            want(level.opener != Op.IF || level.hasElse || level.gives.isEmpty(), 6);
            levels.remove(level);
            put(level.gives);
        }
    }

    private void leave(int op, int a) {
        if (op == Op.JUMP || op == Op.JUMP_IF) {
            want(a >= 0 && a < levels.size(), 1);
            String needed = levels.get(levels.size() - 1 - a).needed();
            if (op == Op.JUMP_IF) {
                take('I');
            }
            takeEach(needed);
            if (op == Op.JUMP_IF) {
                put(needed);
            } else {
                die();
            }
        } else if (op == Op.CALL) {
            want(a >= 0 && a < 4 && parts[a] != null, 1);
            StringBuilder taken = new StringBuilder();
            for (int i = 0; i < parts[a].parameters(); i++) {
                taken.append(letter(parts[a].types()[i]));
            }
            takeEach(taken.toString());
            put(optional(parts[a].result()));
        } else {
            takeEach(op == Op.RETURN ? optional(part.result()) : "");
            die();
        }
    }
}
