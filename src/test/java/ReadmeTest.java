import java.io.IOException;
import java.nio.charset.StandardCharsets;
import java.nio.file.Files;
import java.nio.file.Path;

/** The example of README.md: its lines stand there, and answer what stands behind them. */
public final class ReadmeTest {
    private static final String TEXT = "g5 4; o0 1 1; c0 1; w0;";
    private static final Due DUE = new Due("ReadmeTest");

    private static String readme;

    public static void main(String[] args) throws IOException {
        readme = Files.readString(Path.of("README.md"), StandardCharsets.UTF_8);
        WindFrontiers w = new WindFrontiers();
        DUE.is("the text stands there", readme.contains('"' + TEXT + '"') ? 1 : 0, 1);
        Told.types(w, TEXT);
        line("w.strand();", "4 items", w.strand(), 4);
        line("w.family(0, 1);", "1:", w.family(0, 1), 1);
        line("w.veers();", "1:", w.veers(), 1);
        line("w.help(0, 0);", "6:", w.help(0, 0), 6);
        line("w.undo();", "0:", w.undo(), 0);
        DUE.end();
    }

    private static void line(String call, String told, int got, int want) {
        boolean stands = false;
        for (String line : readme.split("\n")) {
            stands |= line.startsWith(call) && line.contains("// " + told);
        }
        DUE.is("a line of README.md: " + call + " // " + told, stands ? 1 : 0, 1);
        DUE.is(call, got, want);
    }
}
