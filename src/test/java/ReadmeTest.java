import java.nio.charset.StandardCharsets;
import java.nio.file.Files;
import java.nio.file.Path;
import java.util.List;

/** The calls that README.md shows answer what stands behind them. */
public final class ReadmeTest {
    private static final String MODEL = "Waterline w = new Waterline();";

    public static void main(String[] args) throws Exception {
        List<String> lines = Files.readAllLines(Path.of("README.md"), StandardCharsets.UTF_8);
        Waterline w = null;
        int models = 0;
        boolean inside = false;
        for (String line : lines) {
            if (line.startsWith("```")) {
                inside = line.equals("```java");
            } else if (inside && line.equals(MODEL)) {
                w = new Waterline();
                models++;
            } else if (inside && !line.isEmpty()) {
                look(w, line);
            }
        }
        Check.due("how many models README.md shows", models, 2);
        Check.end("ReadmeTest");
    }

    /** A line such as "w.set(0, 3000);   // 3000: in thousandths". */
    private static void look(Waterline w, String line) {
        if (!line.matches("w\\.\\w+\\([-0-9, ]*\\); +// -?[a-z0-9.]+(: .*)?")) {
            Check.due(line, "no call with its answer", "a call with its answer");
            return;
        }
        String call = line.substring(2, line.indexOf(')')).replaceAll("[(,]+ ?", " ").trim();
        String due = line.substring(line.indexOf("// ") + 3).split(": ")[0];
        Check.due(line, Calls.answer(w, call).toString(), due);
    }
}
