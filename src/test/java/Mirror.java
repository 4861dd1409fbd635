import java.util.ArrayList;
import java.util.List;

/**
 * A second, plain reading of the document to compare with: it runs the stack code as it stands, on boxed values, so
 * that a value of the wrong type, or one that is missing, ends a run with a ClassCastException or an
 * IndexOutOfBoundsException.
 */
final class Mirror {
    static final class OutOfFuel extends RuntimeException {
        private static final long serialVersionUID = 1L;
    }

    /** A function: its parameters, the types of all its locals, its result, and its code. */
    record Part(int parameters, int[] types, int result, List<int[]> code) {
    }

    final Part[] parts = new Part[4];
    final Object[] globals = {0, 0L, 0f, 0.0};
    int used;
    int deepest;
    private int fuel;
    private int depth;

    double run(int f, double[] given, int fuelGiven) {
        used = 0;
        deepest = 0;
        depth = 0;
        fuel = fuelGiven;
        Object[] values = new Object[parts[f].parameters()];
        for (int i = 0; i < values.length; i++) {
            values[i] = cast(given[i], parts[f].types()[i]);
        }
        Object result = call(f, values);
        return result == null ? 0.0 : ((Number) result).doubleValue();
    }

    private static Object cast(Number value, int type) {
        switch (type) {
            case Op.INT:
                return value instanceof Long ? (Object) (int) (long) (Long) value
                        : value instanceof Float ? (Object) (int) (float) (Float) value
                        : value instanceof Double ? (Object) (int) (double) (Double) value : value;
            case Op.LONG:
                return value instanceof Integer ? (Object) (long) (int) (Integer) value
                        : value instanceof Float ? (Object) (long) (float) (Float) value
                        : value instanceof Double ? (Object) (long) (double) (Double) value : value;
            case Op.FLOAT:
                return value.floatValue();
            default:
                return value.doubleValue();
        }
    }

    private Object call(int f, Object[] given) {
        if (depth == 8) {
            throw new OutOfFuel();
        }
        depth++;
        deepest = Math.max(deepest, depth);
        Part part = parts[f];
        Object[] locals = new Object[part.types().length];
        for (int i = 0; i < locals.length; i++) {
            locals[i] = i < given.length ? given[i] : cast(0, part.types()[i]);
        }
        List<Object> stack = new ArrayList<>();
        run(part, locals, stack);
        depth--;
        return part.result() == Op.NONE ? null : pop(stack);
    }

    /** Frames are an opener's place in the code and the height of the stack there. */
    private void run(Part part, Object[] locals, List<Object> stack) {
        List<int[]> frames = new ArrayList<>();
        int at = 0;
        while (at < part.code().size()) {
            int op = part.code().get(at)[0];
            int a = part.code().get(at)[1];
            if (op != Op.BLOCK && op != Op.LOOP && op != Op.END) {
                if (used == fuel) {
                    throw new OutOfFuel();
                }
                used++;
            }
            int next = at + 1;
            if (op == Op.BLOCK || op == Op.LOOP) {
                frames.add(new int[] {at, stack.size()});
            } else if (op == Op.IF) {
                boolean holds = (Integer) pop(stack) != 0;
                frames.add(new int[] {at, stack.size()});
                int otherwise = find(part, at, Op.ELSE);
                if (!holds) {
                    next = otherwise >= 0 ? otherwise + 1 : find(part, at, Op.END);
                }
            } else if (op == Op.ELSE) {
                next = find(part, frames.get(frames.size() - 1)[0], Op.END);
            } else if (op == Op.END) {
                frames.remove(frames.size() - 1);
            } else if (op == Op.RETURN) {
                return;
            } else if (op == Op.JUMP || op == Op.JUMP_IF && (Integer) pop(stack) != 0) {
                if (a == frames.size()) {
                    return;
                }
                while (a > 0) {
                    frames.remove(frames.size() - 1);
                    a--;
                }
                next = land(part, frames.get(frames.size() - 1), stack);
            } else if (op != Op.JUMP_IF) {
                simple(op, a, locals, stack);
            }
            at = next;
        }
    }

    private static int land(Part part, int[] frame, List<Object> stack) {
        int[] opener = part.code().get(frame[0]);
        boolean brings = opener[0] != Op.LOOP && opener[1] != Op.NONE;
        Object value = brings ? pop(stack) : null;
        while (stack.size() > frame[1]) {
            pop(stack);
        }
        if (brings) {
            stack.add(value);
        }
        return opener[0] == Op.LOOP ? frame[0] + 1 : find(part, frame[0], Op.END);
    }

    /** The place of the ELSE or END that belongs to an opener, or -1. */
    private static int find(Part part, int opener, int wanted) {
        int depth = 0;
        for (int at = opener + 1; at < part.code().size(); at++) {
            int op = part.code().get(at)[0];
            if (depth == 0 && op == wanted) {
                return at;
            }
            if (op == Op.BLOCK || op == Op.LOOP || op == Op.IF) {
                depth++;
            } else if (op == Op.END) {
                if (depth == 0) {
                    return -1;
                }
                depth--;
            }
        }
        return -1;
    }

    private static Object pop(List<Object> stack) {
        return stack.remove(stack.size() - 1);
    }

    private void simple(int op, int a, Object[] locals, List<Object> stack) {
        switch (op) {
            case Op.CONST_INT -> stack.add(a);
            case Op.CONST_LONG -> stack.add((long) a);
            case Op.CONST_FLOAT -> stack.add((float) a / 8);
            case Op.CONST_DOUBLE -> stack.add((double) a / 8);
            case Op.GET -> stack.add(locals[a]);
            case Op.SET -> locals[a] = sameKind(locals[a], pop(stack));
            case Op.KEEP -> locals[a] = sameKind(locals[a], stack.get(stack.size() - 1));
            case Op.GET_GLOBAL -> stack.add(globals[a]);
            case Op.SET_GLOBAL -> globals[a] = sameKind(globals[a], pop(stack));
            case Op.DROP -> pop(stack);
            case Op.CHOOSE -> {
                boolean first = (Integer) pop(stack) != 0;
                Object second = pop(stack);
                Object one = sameKind(second, pop(stack));
                stack.add(first ? one : second);
            }
            case Op.CONVERT -> {
                Object value = sameKind(cast(0, a / 4), pop(stack));
                stack.add(small(cast((Number) value, a % 4)));
            }
            case Op.CALL -> {
                Object[] given = new Object[parts[a].parameters()];
                for (int i = given.length - 1; i >= 0; i--) {
                    given[i] = sameKind(cast(0, parts[a].types()[i]), pop(stack));
                }
                Object result = call(a, given);
                if (result != null) {
                    stack.add(result);
                }
            }
            case Op.TRAP -> throw new UnsupportedOperationException();
            default -> {
                Object second = pop(stack);
                Object first = pop(stack);
                stack.add(small(compute(op, a, first, second)));
            }
        }
    }

    private static Object sameKind(Object model, Object value) {
        if (model.getClass() != value.getClass()) {
            throw new ClassCastException(model.getClass() + " and " + value.getClass());
        }
        return value;
    }

    private static Object small(Object value) {
        boolean fraction = value instanceof Float || value instanceof Double;
        if (fraction && Math.abs(((Number) value).doubleValue()) > 1e9) {
            throw new ArithmeticException();
        }
        return value;
    }

    private static Object compute(int op, int type, Object first, Object second) {
        return switch (type) {
            case Op.INT -> ofInts(op, (Integer) first, (Integer) second);
            case Op.LONG -> ofLongs(op, (Long) first, (Long) second);
            case Op.FLOAT -> ofFloats(op, (Float) first, (Float) second);
            default -> ofDoubles(op, (Double) first, (Double) second);
        };
    }

    private static Object ofInts(int op, int a, int b) {
        return switch (op) {
            case Op.ADD -> a + b;
            case Op.SUBTRACT -> a - b;
            case Op.MULTIPLY -> a * b;
            case Op.DIVIDE -> a / b;
            case Op.REST -> a % b;
            case Op.AND -> a & b;
            case Op.SHIFT_LEFT -> a << b;
            case Op.BELOW -> a < b ? 1 : 0;
            default -> a == b ? 1 : 0;
        };
    }

    private static Object ofLongs(int op, long a, long b) {
        return switch (op) {
            case Op.ADD -> (Object) (a + b);
            case Op.SUBTRACT -> (Object) (a - b);
            case Op.MULTIPLY -> (Object) (a * b);
            case Op.DIVIDE -> (Object) (a / b);
            case Op.REST -> (Object) (a % b);
            case Op.AND -> (Object) (a & b);
            case Op.SHIFT_LEFT -> (Object) (a << b);
            case Op.BELOW -> (Object) (a < b ? 1 : 0);
            default -> (Object) (a == b ? 1 : 0);
        };
    }

    private static Object ofFloats(int op, float a, float b) {
        if (op == Op.DIVIDE && b == 0) {
            throw new ArithmeticException();
        }
        return switch (op) {
            case Op.ADD -> (Object) (a + b);
            case Op.SUBTRACT -> (Object) (a - b);
            case Op.MULTIPLY -> (Object) (a * b);
            case Op.DIVIDE -> (Object) (a / b);
            case Op.BELOW -> (Object) (a < b ? 1 : 0);
            default -> (Object) (a == b ? 1 : 0);
        };
    }

    private static Object ofDoubles(int op, double a, double b) {
        if (op == Op.DIVIDE && b == 0) {
            throw new ArithmeticException();
        }
        return switch (op) {
            case Op.ADD -> (Object) (a + b);
            case Op.SUBTRACT -> (Object) (a - b);
            case Op.MULTIPLY -> (Object) (a * b);
            case Op.DIVIDE -> (Object) (a / b);
            case Op.BELOW -> (Object) (a < b ? 1 : 0);
            default -> (Object) (a == b ? 1 : 0);
        };
    }
}
