import java.util.ArrayList;
import java.util.List;
import java.util.Random;

/**
 * Code made by chance (with fixed seeds), checked here and by the CheckMirror: the answers must agree. Some of it is
 * faultless code that is spoilt a little, some of it grows as far as the mirror finds no fault, so that all limits
 * and all faults are come to.
 */
public final class CheckMirrorTest {
    private static final int MODULES = 20000;

    private final Random chance;
    private final Mirror.Part[] parts = new Mirror.Part[4];

    private CheckMirrorTest(long seed) {
        chance = new Random(seed);
    }

    public static void main(String[] args) {
        int[] faults = new int[8];
        for (int seed = 0; seed < MODULES; seed++) {
            CheckMirrorTest test = new CheckMirrorTest(seed);
            test.makeParts();
            if (seed % 2 == 0) {
                test.makeAndSpoil();
            } else {
                test.grow();
            }
            int want = CheckMirror.check(test.parts);
            faults[want % 100]++;
            FlatModule module = test.write();
            Due.answers("module " + seed + ": check()", want, module::check);
            Due.answers("module " + seed + ": checked", want == 0 ? 1 : 0, () -> module.count(1));
        }
        for (int fault = 0; fault < 8; fault++) {
            Due.same("modules with fault " + fault, faults[fault] >= 50 ? "many" : faults[fault] + " only", "many");
        }
        Due.end();
    }

    private void makeParts() {
        for (int f = 0; f < 4; f++) {
            if (f == 0 || chance.nextBoolean()) {
                int parameters = chance.nextInt(4);
                int[] types = chance.ints(parameters + chance.nextInt(4), 0, 4).toArray();
                parts[f] = new Mirror.Part(parameters, types, chance.nextInt(5), new ArrayList<>());
            }
        }
    }

    private void makeAndSpoil() {
        for (int f = 0; f < 4; f++) {
            if (parts[f] != null) {
                parts[f].code().addAll(CodeMaker.make(chance, parts, f));
            }
        }
        int f = chance.nextInt(4);
        List<int[]> code = parts[parts[f] == null ? 0 : f].code();
        int times = chance.nextInt(4);
        for (int i = 0; i < times && !code.isEmpty(); i++) {
            int place = chance.nextInt(code.size());
            switch (chance.nextInt(4)) {
                case 0 -> code.remove(place);
                case 1 -> code.set(place, CodeGrower.instruction(chance, chance.nextInt(31)));
                case 2 -> code.set(place, CodeGrower.instruction(chance, code.get(place)[0]));
                default -> code.add(place, code.remove(chance.nextInt(code.size())));
            }
        }
    }

    private void grow() {
        for (int f = 1; f < 4; f++) {
            if (parts[f] != null) {
                parts[f].code().addAll(CodeMaker.make(chance, parts, f));
            }
        }
        new CodeGrower(chance, parts).growUntil(chance.nextInt(8), 40);
    }

    private FlatModule write() {
        FlatModule module = new FlatModule();
        for (int f = 0; f < 4; f++) {
            Mirror.Part part = parts[f];
            if (part != null) {
                module.function(f, part.parameters(), part.types().length - part.parameters(),
                        Build.types(part.types()), part.result());
                for (int[] instruction : part.code()) {
                    module.emit(f, instruction[0], instruction[1]);
                }
            }
        }
        return module;
    }
}
