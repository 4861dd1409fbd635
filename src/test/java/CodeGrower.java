import java.util.List;
import java.util.Random;

/**
 * Makes code of FUNCTION 0 by trying instructions by chance: one with a fault is taken back. Unlike the CodeMaker it
 * has no plan, so that dead code, frames in it and full stacks come about, too.
 */
final class CodeGrower {
    private final Random chance;
    private final Mirror.Part[] parts;
    private final List<int[]> code;

    CodeGrower(Random chance, Mirror.Part[] parts) {
        this.chance = chance;
        this.parts = parts;
        this.code = parts[0].code();
    }

    /** The wanted fault stays and is the last; 0: none is wanted. */
    void growUntil(int wanted, int mostCode) {
        int favourite = chance.nextInt(Op.IF + 1);
        int often = chance.nextInt(4);
        for (int tries = 0; tries < 200 && code.size() < mostCode; tries++) {
            boolean favoured = chance.nextInt(4) < often;
            int fault = attempt(instruction(chance, favoured ? favourite : chance.nextInt(31)));
            if (fault != 0 && fault == wanted && tries > 10) {
                return;
            }
            if (fault != 0) {
                code.remove(code.size() - 1);
            }
        }
    }

    /** Ends the frames one by one, and brings the stack to what is wanted there, if there is room for that. */
    void finish() {
        for (int tries = 0; tries < 40 && code.size() < 40 && CheckMirror.check(parts) != 0; tries++) {
            int fault = attempt(new int[] {Op.END, 0});
            if (fault != 0) {
                code.remove(code.size() - 1);
                boolean allEnded = fault == 5;
                mend(allEnded ? CheckMirror.check(parts) % 100 : fault,
                        allEnded ? parts[0].result() : chance.nextInt(4));
            }
        }
    }

    private void mend(int fault, int type) {
        int[] mending = {fault == 2 ? type : fault == 6 ? Op.ELSE : Op.DROP, 1};
        if (attempt(mending) != 0) {
            code.remove(code.size() - 1);
        }
    }

    /** Adds an instruction and answers the fault that it has, or 0. */
    private int attempt(int[] instruction) {
        code.add(instruction);
        int fault = CheckMirror.check(parts);
        return fault < 100 * code.size() ? fault % 100 : 0;
    }

    static int[] instruction(Random chance, int op) {
        int a = switch (chance.nextInt(8)) {
            case 0 -> chance.nextInt();
            case 1 -> -1;
            case 2 -> chance.nextInt(20);
            default -> op == Op.CONVERT ? chance.nextInt(16) : chance.nextInt(5);
        };
        return new int[] {op, a};
    }
}
