import java.util.function.DoubleSupplier;

/** All that can be seen of an object, as one text to compare. */
final class Seen {
    private Seen() {
    }

    /** What count() and global() tell: calls that change nothing. */
    static String of(FlatModule module) {
        StringBuilder text = new StringBuilder();
        for (int what : new int[] {0, 1, 2, 3, 10, 11, 12, 13}) {
            add(text, "count(" + what + ")", () -> module.count(what));
        }
        for (int g = 0; g < 4; g++) {
            int number = g;
            add(text, "global(" + g + ")", () -> module.global(number));
        }
        return text.toString();
    }

    /**
     * What a fixed row of further calls answers: code, parameters, locals, results and flat code show in them. It
     * changes the object.
     */
    static String further(FlatModule module) {
        StringBuilder text = new StringBuilder(of(module));
        runAll(text, module);
        add(text, "check()", module::check);
        runAll(text, module);
        for (int f = 0; f < 4; f++) {
            int number = f;
            for (int local = 0; local <= 6; local++) {
                int last = local;
                add(text, "emit(" + f + ")", () -> module.emit(number, Op.GET, last));
                add(text, "check()", module::check);
            }
            add(text, "erase(" + f + ")", Due.doing(() -> module.erase(number)));
            add(text, "check()", module::check);
        }
        return text.append(of(module)).toString();
    }

    private static void runAll(StringBuilder text, FlatModule module) {
        for (int f = 0; f < 4; f++) {
            int number = f;
            add(text, "run(" + f + ")", () -> module.run(number, 2.5, -3.5, 4.5, 50));
            text.append(of(module));
        }
    }

    private static void add(StringBuilder text, String call, DoubleSupplier answer) {
        text.append(call).append('=').append(Due.outcome(answer)).append(' ');
    }
}
