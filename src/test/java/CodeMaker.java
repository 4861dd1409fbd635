import java.util.ArrayList;
import java.util.List;
import java.util.Random;

/** Makes faultless code by chance, from the inside out: values of a wanted type, and statements that leave nothing. */
final class CodeMaker {
    private final Random chance;
    private final Mirror.Part[] parts;
    private final Mirror.Part part;
    private final List<int[]> code = new ArrayList<>();
    /** What a jump to each open frame needs, the code itself first. */
    private final List<Integer> needs = new ArrayList<>();
    private int height;

    CodeMaker(Random chance, Mirror.Part[] parts, int f) {
        this.chance = chance;
        this.parts = parts;
        this.part = parts[f];
        needs.add(part.result());
    }

    /** Code for the function, of at most 40 instructions: shorter attempts follow longer ones. */
    static List<int[]> make(Random chance, Mirror.Part[] parts, int f) {
        for (int room = 30; room > 0; room -= 2) {
            CodeMaker maker = new CodeMaker(chance, parts, f);
            maker.body(parts[f].result(), room);
            if (maker.code.size() <= 40) {
                return maker.code;
            }
        }
        return new ArrayList<>(List.of(new int[] {Op.TRAP, 0}));
    }

    private void add(int op, int a) {
        code.add(new int[] {op, a});
    }

    /** Statements, then the value that the frame gives, or a way out of the frame instead of it. */
    private void body(int gives, int room) {
        int end = code.size() + room;
        int statements = chance.nextInt(4);
        for (int i = 0; i < statements && code.size() < end; i++) {
            statement(end - code.size());
        }
        if (code.size() > 0 && chance.nextInt(8) == 0) {
            wayOut(end - code.size());
        } else if (gives != Op.NONE) {
            value(gives, Math.max(1, end - code.size()));
        }
    }

    private void wayOut(int room) {
        int kind = chance.nextInt(6);
        int kept = height;
        if (chance.nextBoolean()) {
            // A jump leaves such a value behind.
            value(chance.nextInt(4), 2);
            height++;
        }
        if (kind == 0) {
            add(Op.TRAP, 0);
        } else if (kind == 1) {
            optionalValue(part.result(), room);
            add(Op.RETURN, 0);
        } else {
            int frame = chance.nextInt(needs.size());
            optionalValue(needs.get(frame), room);
            add(Op.JUMP, needs.size() - 1 - frame);
        }
        height = kept;
        if (chance.nextInt(3) == 0) {
            // Dead code, which may take whatever it likes.
            add(Op.ADD, chance.nextInt(4));
            add(Op.DROP, 0);
        }
    }

    private void optionalValue(int type, int room) {
        if (type != Op.NONE) {
            value(type, room);
        }
    }

    private void statement(int room) {
        switch (chance.nextInt(9)) {
            case 0, 1 -> setLocal(room);
            case 2, 3 -> {
                int g = chance.nextInt(4);
                value(g, room - 1);
                add(Op.SET_GLOBAL, g);
            }
            case 4 -> frame(Op.NONE, room);
            case 5 -> loopOfStatements(room);
            case 6 -> jumpIf(room);
            case 7 -> call(Op.NONE, room);
            default -> {
                value(chance.nextInt(4), room - 1);
                add(Op.DROP, 0);
            }
        }
    }

    private void setLocal(int room) {
        if (part.types().length > 0) {
            int local = chance.nextInt(part.types().length);
            value(part.types()[local], room - 1);
            add(Op.SET, local);
        }
    }

    private void loopOfStatements(int room) {
        add(Op.LOOP, Op.NONE);
        needs.add(Op.NONE);
        statement(room / 2);
        value(Op.INT, room / 3);
        add(Op.JUMP_IF, 0);
        needs.remove(needs.size() - 1);
        add(Op.END, 0);
    }

    private void jumpIf(int room) {
        int frame = chance.nextInt(needs.size());
        boolean junk = chance.nextBoolean();
        if (junk && height < 12) {
            value(chance.nextInt(4), 1);
            height++;
        }
        optionalValue(needs.get(frame), room / 2);
        height++;
        value(Op.INT, room / 2);
        height--;
        add(Op.JUMP_IF, needs.size() - 1 - frame);
        if (needs.get(frame) != Op.NONE) {
            add(Op.DROP, 0);
        }
        if (junk && height < 13) {
            height--;
            add(Op.DROP, 0);
        }
    }

    private void frame(int gives, int room) {
        int kind = chance.nextInt(4);
        if (needs.size() > 8 || height > 10) {
            optionalValue(gives, 1);
        } else if (kind == 0) {
            add(Op.LOOP, gives);
            inside(Op.NONE, gives, room - 2);
            add(Op.END, 0);
        } else if (kind == 1) {
            add(Op.BLOCK, gives);
            inside(gives, gives, room - 2);
            add(Op.END, 0);
        } else {
            value(Op.INT, room / 3);
            add(Op.IF, gives);
            inside(gives, gives, room / 3);
            if (gives != Op.NONE || chance.nextBoolean()) {
                add(Op.ELSE, 0);
                inside(gives, gives, room / 3);
            }
            add(Op.END, 0);
        }
    }

    private void inside(int needed, int gives, int room) {
        needs.add(needed);
        body(gives, room);
        needs.remove(needs.size() - 1);
    }

    private void call(int result, int room) {
        int start = chance.nextInt(4);
        for (int i = 0; i < 4; i++) {
            int f = (start + i) % 4;
            if (parts[f] != null && parts[f].result() == result) {
                for (int p = 0; p < parts[f].parameters(); p++) {
                    value(parts[f].types()[p], room / 4);
                    height++;
                }
                height -= parts[f].parameters();
                add(Op.CALL, f);
                return;
            }
        }
        optionalValue(result, 1);
    }

    private void value(int type, int room) {
        if (room < 3 || height > 14) {
            leaf(type);
            return;
        }
        switch (chance.nextInt(10)) {
            case 0, 1, 2 -> binary(type, room);
            case 3 -> {
                int from = chance.nextInt(4);
                value(from, room - 1);
                add(Op.CONVERT, 4 * from + type);
            }
            case 4 -> {
                value(type, room / 3);
                height++;
                value(type, room / 3);
                height++;
                value(Op.INT, room / 3);
                height -= 2;
                add(Op.CHOOSE, 0);
            }
            case 5, 6 -> frame(type, room);
            case 7 -> call(type, room);
            default -> leaf(type);
        }
    }

    private void binary(int type, int room) {
        boolean compares = type == Op.INT && chance.nextBoolean();
        int of = compares ? chance.nextInt(4) : type;
        value(of, room / 2);
        height++;
        value(of, room / 2);
        height--;
        int ops = of <= Op.LONG ? 7 : 4;
        add(compares ? Op.BELOW + chance.nextInt(2) : Op.ADD + chance.nextInt(ops), of);
    }

    private void leaf(int type) {
        int local = chance.nextInt(7);
        if (local < part.types().length && part.types()[local] == type) {
            add(Op.GET, local);
        } else if (chance.nextInt(4) == 0) {
            add(Op.GET_GLOBAL, type);
        } else {
            add(type, chance.nextInt(8) == 0 ? chance.nextInt() : chance.nextInt(9) - 2);
            for (int keeper = 0; keeper < part.types().length; keeper++) {
                if (part.types()[keeper] == type && chance.nextInt(4) == 0) {
                    add(Op.KEEP, keeper);
                }
            }
        }
    }
}
