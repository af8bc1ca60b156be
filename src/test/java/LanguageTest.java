import java.nio.charset.StandardCharsets;
import java.nio.file.Files;
import java.nio.file.Path;
import java.util.List;

/** A first look at what LANGUAGE.md rules out; it does not stand for reading the rules. */
public final class LanguageTest {
    private static final List<String> RULED_OUT = List.of("->", "::", "import ", "package ", "static {", "Exact(",
            "synchronized", "assert ", "finally", "try ", "catch ", "System.out", "nanoTime", "currentTimeMillis",
            "random", "Integer.M", "Object ", "hashCode", "toString", "float ");
    private static final List<String> THROWN = List.of("new IndexOutOfBoundsException()",
            "new IllegalArgumentException()", "new IllegalStateException()");

    public static void main(String[] args) throws Exception {
        List<String> lines = Files.readAllLines(Path.of("src/main/java/Waterline.java"), StandardCharsets.UTF_8);
        for (int k = 0; k < lines.size(); k++) {
            look(k + 1, lines.get(k));
        }
        Check.end("LanguageTest");
    }

    private static void look(int number, String line) {
        Check.due("line " + number + " is of plain signs", line.chars().allMatch(c -> c >= 32 && c < 127), true);
        Check.due("line " + number + " joins no texts", line.contains("\""), false);
        String code = line.trim();
        if (code.startsWith("*") || code.startsWith("/**") || code.startsWith("//")) {
            return;
        }
        for (String word : RULED_OUT) {
            boolean there = code.contains(word);
            Check.due("line " + number + " has '" + word + "'", there, false);
        }
        if (code.startsWith("throw ")) {
            boolean known = THROWN.contains(code.substring("throw ".length(), code.length() - 1));
            Check.due("line " + number + " throws what the face names", known, true);
        }
    }
}
