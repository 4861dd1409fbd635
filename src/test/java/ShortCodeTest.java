import java.util.ArrayList;
import java.util.Arrays;
import java.util.List;

/**
 * Every code of at most five instructions out of a small set, checked here and by the CheckMirror and, if it has no
 * fault, run here and by the Mirror. Code that goes on behind a fault is left out: the fault stays the same.
 */
public final class ShortCodeTest {
    private static final int LONGEST = 5;
    private static final int[][] SET = {{Op.CONST_INT, 1}, {Op.CONST_LONG, 1}, {Op.GET, 0}, {Op.KEEP, 0},
        {Op.SET_GLOBAL, 0}, {Op.DROP, 0}, {Op.CHOOSE, 0}, {Op.ADD, Op.INT}, {Op.BLOCK, Op.NONE}, {Op.BLOCK, Op.INT},
        {Op.LOOP, Op.LONG}, {Op.IF, Op.NONE}, {Op.IF, Op.INT}, {Op.ELSE, 0}, {Op.END, 0}, {Op.JUMP, 0}, {Op.JUMP, 1},
        {Op.JUMP_IF, 0}, {Op.JUMP_IF, 1}, {Op.RETURN, 0}, {Op.CALL, 1}, {Op.TRAP, 0}};

    private final Mirror mirror = new Mirror();
    private final List<int[]> code = new ArrayList<>();
    private int codes;
    private int faultless;

    private ShortCodeTest(int result) {
        mirror.parts[0] = new Mirror.Part(1, new int[] {Op.INT}, result, code);
        mirror.parts[1] = new Mirror.Part(1, new int[] {Op.LONG}, Op.INT,
                List.of(new int[] {Op.GET, 0}, new int[] {Op.CONVERT, 4 * Op.LONG + Op.INT}));
    }

    public static void main(String[] args) {
        for (int result : new int[] {Op.INT, Op.NONE}) {
            ShortCodeTest test = new ShortCodeTest(result);
            test.compareAndGoOn();
            dueToBeMany("codes", test.codes, 300000);
            dueToBeMany("faultless codes", test.faultless, 30000);
        }
        Due.end();
    }

    private static void dueToBeMany(String what, int number, int least) {
        Due.same(what, number >= least ? "many" : number + " only", "many");
    }

    private void compareAndGoOn() {
        codes++;
        int want = CheckMirror.check(mirror.parts);
        FlatModule module = write();
        Due.answers(name() + "check()", want, module::check);
        if (want == 0) {
            faultless++;
            compareRuns(module);
        }
        boolean faultAtTheEnd = want / 100 == code.size();
        if (code.size() < LONGEST && (want == 0 || faultAtTheEnd)) {
            for (int[] instruction : SET) {
                code.add(instruction);
                compareAndGoOn();
                code.remove(code.size() - 1);
            }
        }
    }

    private String name() {
        return Arrays.deepToString(code.toArray()) + " ";
    }

    private FlatModule write() {
        FlatModule module = Build.withLocals(1, 0, Op.INT, mirror.parts[0].result());
        for (int[] instruction : code) {
            module.emit(0, instruction[0], instruction[1]);
        }
        module.function(1, 1, 0, Op.LONG, Op.INT);
        Build.code(module, 1, Op.GET, 0, Op.CONVERT, 4 * Op.LONG + Op.INT);
        return module;
    }

    private void compareRuns(FlatModule module) {
        mirror.globals[0] = 0;
        for (int fuel : new int[] {9, 2}) {
            for (int x : new int[] {0, 3}) {
                String name = name() + "x " + x + ", fuel " + fuel + ": ";
                String want = Due.outcome(() -> mirror.run(0, new double[] {x, 0, 0}, fuel));
                want = want.equals("OutOfFuel") ? Due.STATE : want;
                Due.same(name + "run", Due.outcome(() -> module.run(0, x, 0, 0, fuel)), want);
                Due.answers(name + "used", mirror.used, () -> module.count(2));
                Due.answers(name + "calls", mirror.deepest, () -> module.count(3));
                Due.answers(name + "GLOBAL 0", (Integer) mirror.globals[0], () -> module.global(0));
            }
        }
    }
}
