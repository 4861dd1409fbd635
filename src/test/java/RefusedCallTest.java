import java.util.ArrayList;
import java.util.HashSet;
import java.util.List;
import java.util.Random;
import java.util.Set;
import java.util.function.DoubleSupplier;
import java.util.function.Supplier;
import java.util.function.ToDoubleFunction;

/**
 * Terms: which exception a refused call throws, that a bad number comes before all else, and that the object is
 * afterwards as one that never got the call.
 */
public final class RefusedCallTest {
    private static final int LEAST = Integer.MIN_VALUE;
    private static final int MOST = Integer.MAX_VALUE;

    private record Refused(String name, String exception, ToDoubleFunction<FlatModule> call) {
    }

    /** How to make an object, and which functions it has then. */
    private record State(Supplier<FlatModule> maker, Set<Integer> there) {
    }

    public static void main(String[] args) {
        for (State state : states()) {
            for (Refused refused : refusedIn(state.maker().get(), state.there())) {
                compareWithTwin(state.maker(), refused);
            }
        }
        amongCallsByChance();
        Due.end();
    }

    private static List<State> states() {
        return List.of(new State(FlatModule::new, Set.of()),
                new State(RefusedCallTest::checkedWithoutFunctions, Set.of()),
                new State(RefusedCallTest::withoutCode, Set.of(0, 2)),
                new State(RefusedCallTest::notChecked, Set.of(1, 3)),
                new State(RefusedCallTest::withFault, Set.of(1, 3)),
                new State(RefusedCallTest::checkedAndRun, Set.of(1, 3)),
                new State(RefusedCallTest::full, Set.of(0, 1, 3)),
                new State(RefusedCallTest::changedBehindACheck, Set.of(1, 3)),
                new State(RefusedCallTest::trapped, Set.of(1, 3)),
                new State(RefusedCallTest::outOfFuel, Set.of(1, 3)));
    }

    private static FlatModule checkedWithoutFunctions() {
        FlatModule module = new FlatModule();
        module.check();
        return module;
    }

    private static FlatModule withoutCode() {
        FlatModule module = new FlatModule();
        module.function(0, 3, 3, -1, Op.NONE);
        module.function(2, 0, 0, 0, Op.NONE);
        return module;
    }

    private static FlatModule notChecked() {
        FlatModule module = new FlatModule();
        module.function(1, 2, 1, Build.types(Op.INT, Op.DOUBLE, Op.LONG), Op.DOUBLE);
        Build.code(module, 1, Op.GET, 1, Op.GET, 0, Op.CONVERT, 3, Op.ADD, Op.DOUBLE, Op.SET_GLOBAL, 3,
                Op.GET_GLOBAL, 3);
        module.function(3, 0, 0, 0, Op.NONE);
        Build.code(module, 3, Op.CONST_INT, 4, Op.CONST_DOUBLE, 6, Op.CALL, 1, Op.DROP, 0);
        return module;
    }

    private static FlatModule withFault() {
        FlatModule module = notChecked();
        module.emit(3, Op.DROP, 0);
        module.check();
        return module;
    }

    private static FlatModule checkedAndRun() {
        FlatModule module = notChecked();
        module.check();
        module.run(3, 0, 0, 0, 30);
        return module;
    }

    private static FlatModule full() {
        FlatModule module = checkedAndRun();
        module.function(0, 0, 0, 0, Op.NONE);
        Build.code(module, 0, Build.repeat(20, Op.CONST_INT, 1, Op.SET_GLOBAL, 0));
        module.check();
        module.run(0, 0, 0, 0, 40);
        return module;
    }

    private static FlatModule changedBehindACheck() {
        FlatModule module = checkedAndRun();
        module.emit(3, Op.RETURN, 0);
        return module;
    }

    private static FlatModule trapped() {
        FlatModule module = checkedAndRun();
        module.emit(3, Op.TRAP, 0);
        module.check();
        Due.fails("trap", Due.TRAPPED, () -> module.run(3, 0, 0, 0, 300));
        return module;
    }

    private static FlatModule outOfFuel() {
        FlatModule module = checkedAndRun();
        Due.fails("out of fuel", Due.STATE, () -> module.run(3, 0, 0, 0, 8));
        return module;
    }

    /** Every call that the document refuses in the state of the given object. */
    private static List<Refused> refusedIn(FlatModule module, Set<Integer> there) {
        List<Refused> all = new ArrayList<>();
        badFunctions(all);
        for (int g : new int[] {LEAST, -1, 4, MOST}) {
            add(all, "global(" + g + ")", Due.BAD, m -> m.global(g));
        }
        for (int f : new int[] {LEAST, -1, 0, 1, 2, 3, 4, MOST}) {
            if (!there.contains(f)) {
                noFunction(all, f);
            } else if (module.count(10 + f) == 40) {
                add(all, "emit when full", Due.STATE, m -> m.emit(f, Op.RETURN, 0));
                add(all, "emit of the largest op when full", Due.STATE, m -> m.emit(f, 30, MOST));
            }
            for (int op : new int[] {LEAST, -1, 31, MOST}) {
                add(all, "emit(" + f + ", " + op + ")", Due.BAD, m -> m.emit(f, op, 0));
            }
            for (int fuel : new int[] {LEAST, -1, 0, 301, MOST}) {
                add(all, "run(" + f + ") with " + fuel, Due.BAD, m -> m.run(f, 1, 2, 3, fuel));
            }
            if (there.contains(f) && module.count(1) == 0) {
                add(all, "run of what isn't checked", Due.STATE, m -> m.run(f, 1, 2, 3, 1));
                add(all, "run of what isn't checked", Due.STATE, m -> m.run(f, 1, 2, 3, 300));
            }
        }
        return all;
    }

    private static void badFunctions(List<Refused> all) {
        for (int bad : new int[] {LEAST, -1, 4, MOST}) {
            for (int good = 0; good <= 3; good++) {
                int g = good;
                add(all, "function " + bad, Due.BAD, doing(m -> m.function(bad, g, g, 0, g)));
                add(all, "parameters " + bad, Due.BAD, doing(m -> m.function(g, bad, g, 0, g)));
                add(all, "locals " + bad, Due.BAD, doing(m -> m.function(g, g, bad, 0, g)));
                int result = bad == 4 ? 5 : bad;
                add(all, "result " + result, Due.BAD, doing(m -> m.function(g, g, g, 0, result)));
            }
        }
    }

    private static void noFunction(List<Refused> all, int f) {
        add(all, "emit(" + f + ")", Due.BAD, m -> m.emit(f, 0, 0));
        add(all, "erase(" + f + ")", Due.BAD, doing(m -> m.erase(f)));
        add(all, "run(" + f + ") with 1", Due.BAD, m -> m.run(f, 1, 2, 3, 1));
        add(all, "run(" + f + ") with 300", Due.BAD, m -> m.run(f, 1, 2, 3, 300));
    }

    private interface Change {
        void on(FlatModule module);
    }

    private static ToDoubleFunction<FlatModule> doing(Change change) {
        return module -> {
            change.on(module);
            return 0;
        };
    }

    private static void add(List<Refused> all, String name, String exception, ToDoubleFunction<FlatModule> call) {
        all.add(new Refused(name, exception, call));
    }

    private static void compareWithTwin(Supplier<FlatModule> state, Refused refused) {
        FlatModule module = state.get();
        FlatModule twin = state.get();
        String before = Seen.of(module);
        DoubleSupplier call = () -> refused.call().applyAsDouble(module);
        Due.about("it comes first. Not CHECKED, no room, OUT OF FUEL: IllegalStateException");
        Due.fails(refused.name(), refused.exception(), call);
        Due.about("What throws changes nothing");
        Due.same("what is seen behind " + refused.name(), Seen.of(module), before);
        Due.fails(refused.name() + " again", refused.exception(), call);
        Due.same("all calls behind " + refused.name(), Seen.further(module), Seen.further(twin));
    }

    /** Two objects with the same calls, made by chance, but one gets refused calls in between (all within 512). */
    private static void amongCallsByChance() {
        Due.about("What throws changes nothing");
        for (int seed = 0; seed < 300; seed++) {
            Random chance = new Random(seed);
            FlatModule module = new FlatModule();
            FlatModule twin = new FlatModule();
            Set<Integer> there = new HashSet<>();
            for (int turn = 1; turn <= 30; turn++) {
                int[] numbers = chance.ints(6, 0, 1000).toArray();
                String name = "seed " + seed + ", turn " + turn;
                Due.same(name, Due.outcome(() -> chanceCall(module, numbers)),
                        Due.outcome(() -> chanceCall(twin, numbers)));
                if (numbers[1] % 8 == 0) {
                    there.add(numbers[0] % 4);
                }
                List<Refused> all = refusedIn(module, there);
                Refused refused = all.get(chance.nextInt(all.size()));
                Due.fails(name + ", " + refused.name(), refused.exception(),
                        () -> refused.call().applyAsDouble(module));
                if (turn % 10 == 0) {
                    Due.same(name + ", what is seen", Seen.of(module), Seen.of(twin));
                }
            }
        }
    }

    private static double chanceCall(FlatModule module, int[] numbers) {
        int f = numbers[0] % 4;
        switch (numbers[1] % 8) {
            case 0:
                module.function(f, numbers[2] % 4, numbers[3] % 4, numbers[4], Op.NONE);
                return 0;
            case 1:
                return module.check();
            case 2:
                return module.run(f, numbers[2], numbers[3], numbers[4], 1 + numbers[5] % 300);
            default:
                module.emit(f, Op.GET_GLOBAL, numbers[2] % 4);
                module.emit(f, numbers[2] % 4, numbers[4]);
                module.emit(f, Op.ADD, numbers[2] % 4);
                module.emit(f, Op.SET_GLOBAL, numbers[2] % 4);
                return module.check();
        }
    }
}
