import java.util.ArrayList;
import java.util.Random;

/**
 * Many modules of code made by chance (with fixed seeds), run here and by the Mirror: answers, fuel, calls and globals
 * must agree. A third of the code is spoilt a little, a third has grown without a plan: if check() finds no fault in
 * it, every value must have its type.
 */
public final class MirrorTest {
    private static final int MODULES = 9000;

    private final Random chance;
    private final Mirror mirror = new Mirror();
    private final FlatModule module = new FlatModule();

    private MirrorTest(long seed) {
        chance = new Random(seed);
    }

    public static void main(String[] args) {
        int[] ends = new int[4];
        int spoiltWithoutFault = 0;
        int grownWithoutFault = 0;
        for (int seed = 0; seed < MODULES; seed++) {
            MirrorTest test = new MirrorTest(seed);
            test.makeModule();
            boolean spoilt = seed % 3 == 0;
            boolean grown = seed % 3 == 1;
            if (spoilt) {
                test.spoil();
            } else if (grown) {
                test.growAnew();
            }
            test.write();
            if (!spoilt && !grown) {
                Due.answers("module " + seed + ": check()", 0, test.module::check);
            }
            if (test.module.check() == 0) {
                spoiltWithoutFault += spoilt ? 1 : 0;
                grownWithoutFault += grown ? 1 : 0;
                test.compareRuns(seed, ends);
            }
        }
        // Were hardly any run to end well, or out of fuel, or in a trap, the comparison would say little.
        dueToBeMany("spoilt modules without fault", spoiltWithoutFault, 200);
        dueToBeMany("grown modules without fault", grownWithoutFault, 1000);
        for (int end = 0; end < ends.length; end++) {
            dueToBeMany("runs that end in way " + end, ends[end], 1000);
        }
        Due.end();
    }

    private static void dueToBeMany(String what, int number, int least) {
        Due.same(what, number >= least ? "many" : number + " only", "many");
    }

    private void makeModule() {
        for (int f = 0; f < 4; f++) {
            if (f == 0 || chance.nextInt(3) > 0) {
                int[] types = new int[chance.nextInt(4) + chance.nextInt(4)];
                for (int i = 0; i < types.length; i++) {
                    types[i] = chance.nextInt(4);
                }
                int parameters = Math.min(3, Math.max(types.length - 3, chance.nextInt(types.length + 1)));
                mirror.parts[f] = new Mirror.Part(parameters, types, chance.nextInt(5), new ArrayList<>());
            }
        }
        for (int f = 0; f < 4; f++) {
            if (mirror.parts[f] != null) {
                mirror.parts[f].code().addAll(CodeMaker.make(chance, mirror.parts, f));
            }
        }
    }

    private void spoil() {
        Mirror.Part part = mirror.parts[0];
        int times = 1 + chance.nextInt(2);
        for (int i = 0; i < times && !part.code().isEmpty(); i++) {
            int place = chance.nextInt(part.code().size());
            int[] old = part.code().get(place);
            int[] other = {chance.nextInt(31), chance.nextInt(6)};
            switch (chance.nextInt(4)) {
                case 0 -> part.code().remove(place);
                case 1 -> part.code().set(place, other);
                case 2 -> part.code().set(place, new int[] {old[0], chance.nextInt(6)});
                default -> {
                    if (part.code().size() < 40) {
                        part.code().add(place, other);
                    }
                }
            }
        }
    }

    private void growAnew() {
        mirror.parts[0].code().clear();
        CodeGrower grower = new CodeGrower(chance, mirror.parts);
        grower.growUntil(0, 8 + chance.nextInt(12));
        grower.finish();
    }

    private void write() {
        for (int f = 0; f < 4; f++) {
            Mirror.Part part = mirror.parts[f];
            if (part != null) {
                module.function(f, part.parameters(), part.types().length - part.parameters(),
                        Build.types(part.types()), part.result());
                for (int[] instruction : part.code()) {
                    module.emit(f, instruction[0], instruction[1]);
                }
            }
        }
    }

    private void compareRuns(int seed, int[] ends) {
        for (int turn = 0; turn < 12; turn++) {
            int f = chance.nextInt(4);
            if (mirror.parts[f] != null) {
                double[] given = {chanceNumber(), chanceNumber(), chanceNumber()};
                int fuel = chance.nextInt(4) == 0 ? 1 + chance.nextInt(30) : 300;
                String name = "module " + seed + ", turn " + turn;
                String want = outcomeOfMirror(f, given, fuel, ends);
                Due.same(name, Due.outcome(() -> module.run(f, given[0], given[1], given[2], fuel)), want);
                compareState(name);
            }
        }
    }

    private double chanceNumber() {
        return switch (chance.nextInt(4)) {
            case 0 -> 0;
            case 1 -> chance.nextInt(7) - 3;
            case 2 -> chance.nextInt(1000) / 8.0;
            default -> (chance.nextDouble() - 0.5) * 4e9;
        };
    }

    private String outcomeOfMirror(int f, double[] given, int fuel, int[] ends) {
        try {
            double answer = mirror.run(f, given, fuel);
            ends[0]++;
            return String.valueOf(answer + 0.0);
        } catch (Mirror.OutOfFuel e) {
            ends[1]++;
            return Due.STATE;
        } catch (ArithmeticException e) {
            ends[2]++;
            return Due.ARITHMETIC;
        } catch (UnsupportedOperationException e) {
            ends[3]++;
            return Due.TRAPPED;
        }
    }

    private void compareState(String name) {
        Due.answers(name + ": fuel", mirror.used, () -> module.count(2));
        Due.answers(name + ": calls", mirror.deepest, () -> module.count(3));
        for (int g = 0; g < 4; g++) {
            int number = g;
            Due.answers(name + ": global " + g, ((Number) mirror.globals[g]).doubleValue(),
                    () -> module.global(number));
        }
    }
}
