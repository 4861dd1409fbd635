import java.io.IOException;
import java.nio.file.Files;
import java.nio.file.Path;

/** The example in README.md: its lines are those here, and answer what they say. */
public final class ReadmeTest {
    public static void main(String[] args) throws IOException {
        FlatModule module = new FlatModule();
        module.function(0, 2, 0, 0, 0);
        module.emit(0, 4, 0);
        module.emit(0, 4, 1);
        module.emit(0, 11, 0);
        int fault = module.check();
        double sum = module.run(0, 3, 4, 0, 100);
        int used = module.count(2);
        Due.answers("fault", 0, () -> fault);
        Due.answers("sum", 7.0, () -> sum);
        Due.answers("used", 3, () -> used);
        linesAreThoseOfTheReadme();
        Due.end();
    }

    private static void linesAreThoseOfTheReadme() throws IOException {
        String source = Files.readString(Path.of("src", "test", "java", "ReadmeTest.java"));
        String example = Files.readString(Path.of("README.md")).split("```(java)?")[1];
        for (String line : example.strip().split("\n")) {
            String code = line.replaceFirst(" *//.*", "");
            Due.same(code, source.contains("        " + code + "\n") ? "here" : "not here", "here");
        }
    }
}
