import java.io.IOException;
import java.nio.file.Files;
import java.nio.file.Path;
import java.util.List;

/** What LANGUAGE.md rules out and a look at the text can find. It runs in the project's folder. */
final class RulesTest {
    private static final String[] RULED_OUT = {
        "->", "::", "catch", "finally", "try", "synchronized", "assert", "native", "volatile", "transient",
        "instanceof", "Exact", "System.out", "System.err", "Random", "Thread", "nanoTime", "currentTimeMillis",
        "ordinal", "hashCode", "toString", "getClass", "var ", "yield", "package", "protected", "ArrayIndexOutOf",
        "NullPointer", "ClassCast", "NegativeArraySize", "ArrayStore", "Throwable", "Object", "interface"};

    public static void main(String[] args) throws IOException {
        List<String> lines = Files.readAllLines(Path.of("src/main/java/BarrierFlow.java"));
        StringBuilder code = new StringBuilder();
        int imports = 0;
        int bodyFrom = -1;
        for (int n = 0; n < lines.size(); n++) {
            String line = lines.get(n);
            int number = n + 1;
            Check.due("line " + number + " is short and plain", true, () -> line.matches("[ -~]{0,120}"));
            imports += line.startsWith("import ") ? 1 : 0;
            if (line.matches(" {4}( {4})?[^ /*].*\\) ?(throws .*)?\\{") && !line.contains(" class ")) {
                bodyFrom = n;
            }
            if (bodyFrom >= 0 && (line.equals("    }") || line.equals("        }"))) {
                int length = n - bodyFrom + 1;
                Check.due("the method that ends in line " + number + " is short", true, () -> length <= 60);
                bodyFrom = -1;
            }
            String bare = line.replaceAll("//.*", "");
            if (!bare.trim().startsWith("*") && !bare.trim().startsWith("/*")) {
                code.append(bare).append('\n');
            }
        }
        int all = imports;
        Check.due("one import", 1, () -> all);
        Check.due("of the exception that the document names", true,
                () -> code.indexOf("import java.util.NoSuchElementException;") == 0);
        for (String word : RULED_OUT) {
            Check.due("without " + word, -1, () -> code.toString().replaceAll("try\\w|\\wtry", "").indexOf(word));
        }
        Check.end("RulesTest");
    }
}
