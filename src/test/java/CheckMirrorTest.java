import java.util.ArrayList;
import java.util.List;
import java.util.Random;

/**
 * Code made by chance (with fixed seeds), checked here and by the CheckMirror: the answers must agree. Some of it is
 * faultless code that is spoilt a little, some of it grows as far as the mirror finds no fault, so that all limits
 * and all faults are come to.
 */
public final class CheckMirrorTest {
    private static final int MODULES = 20000;

    private final Random chance;
    private final Mirror.Part[] parts = new Mirror.Part[4];

    private CheckMirrorTest(long seed) {
        chance = new Random(seed);
    }

    public static void main(String[] args) {
        int[] faults = new int[8];
        for (int seed = 0; seed < MODULES; seed++) {
            CheckMirrorTest test = new CheckMirrorTest(seed);
            test.makeParts();
            if (seed % 2 == 0) {
                test.makeAndSpoil();
            } else {
                test.grow();
            }
            int want = CheckMirror.check(test.parts);
            faults[want % 100]++;
            FlatModule module = test.write();
            Due.answers("module " + seed + ": check()", want, module::check);
            Due.answers("module " + seed + ": checked", want == 0 ? 1 : 0, () -> module.count(1));
        }
        for (int fault = 0; fault < 8; fault++) {
            Due.same("modules with fault " + fault, faults[fault] >= 50 ? "many" : faults[fault] + " only", "many");
        }
        Due.end();
    }

    private void makeParts() {
        for (int f = 0; f < 4; f++) {
            if (f == 0 || chance.nextBoolean()) {
                int parameters = chance.nextInt(4);
                int[] types = chance.ints(parameters + chance.nextInt(4), 0, 4).toArray();
                parts[f] = new Mirror.Part(parameters, types, chance.nextInt(5), new ArrayList<>());
            }
        }
    }

    private void makeAndSpoil() {
        for (int f = 0; f < 4; f++) {
            if (parts[f] != null) {
                parts[f].code().addAll(CodeMaker.make(chance, parts, f));
            }
        }
        int f = chance.nextInt(4);
        List<int[]> code = parts[parts[f] == null ? 0 : f].code();
        int times = chance.nextInt(4);
        for (int i = 0; i < times && !code.isEmpty(); i++) {
            int place = chance.nextInt(code.size());
            switch (chance.nextInt(4)) {
                case 0 -> code.remove(place);
                case 1 -> code.set(place, chanceInstruction(chance.nextInt(31)));
                case 2 -> code.set(place, chanceInstruction(code.get(place)[0]));
                default -> code.add(place, code.remove(chance.nextInt(code.size())));
            }
        }
    }

    /** Instructions by chance: one with a fault is taken back, but the wanted fault stays and is the last. */
    private void grow() {
        for (int f = 1; f < 4; f++) {
            if (parts[f] != null) {
                parts[f].code().addAll(CodeMaker.make(chance, parts, f));
            }
        }
        List<int[]> code = parts[0].code();
        int wanted = chance.nextInt(8);
        int favourite = chance.nextInt(Op.IF + 1);
        int often = chance.nextInt(4);
        for (int tries = 0; tries < 200 && code.size() < 40; tries++) {
            boolean favoured = chance.nextInt(4) < often;
            code.add(chanceInstruction(favoured ? favourite : chance.nextInt(31)));
            int fault = CheckMirror.check(parts);
            boolean isInTheLatest = fault > 0 && fault < 100 * code.size();
            if (isInTheLatest && fault % 100 == wanted && tries > 10) {
                return;
            }
            if (isInTheLatest) {
                code.remove(code.size() - 1);
            }
        }
    }

    private int[] chanceInstruction(int op) {
        int a = switch (chance.nextInt(8)) {
            case 0 -> chance.nextInt();
            case 1 -> -1;
            case 2 -> chance.nextInt(20);
            default -> op == Op.CONVERT ? chance.nextInt(16) : chance.nextInt(5);
        };
        return new int[] {op, a};
    }

    private FlatModule write() {
        FlatModule module = new FlatModule();
        for (int f = 0; f < 4; f++) {
            Mirror.Part part = parts[f];
            if (part != null) {
                module.function(f, part.parameters(), part.types().length - part.parameters(),
                        Build.types(part.types()), part.result());
                for (int[] instruction : part.code()) {
                    module.emit(f, instruction[0], instruction[1]);
                }
            }
        }
        return module;
    }
}
