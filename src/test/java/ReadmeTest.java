import java.io.IOException;
import java.io.InputStream;
import java.lang.reflect.Method;
import java.lang.reflect.Modifier;
import java.nio.charset.StandardCharsets;
import java.nio.file.Files;
import java.nio.file.Path;
import java.util.ArrayList;
import java.util.Comparator;
import java.util.List;
import java.util.stream.Stream;

/** What README.md shows is what the example does, and its commands work. It runs in the project's folder. */
final class ReadmeTest {
    private static final String FENCE = "```";

    public static void main(String[] args) throws IOException, InterruptedException {
        String page = Files.readString(Path.of("README.md"));
        showsTheExample(page, Files.readString(Path.of("src/example/java/Example.java")));
        namesAllMethods(page);
        Path copy = Files.createTempDirectory("readme");
        try {
            copySources(copy);
            List<String> printed = new ArrayList<>();
            for (String commands : blocks(page, "sh")) {
                printed.add(run(commands, copy));
            }
            Check.due("there are commands", true, () -> !printed.isEmpty());
            Check.due("what the example prints", blocks(page, "text").get(0), () -> printed.get(0));
        } finally {
            delete(copy);
        }
        Check.end("ReadmeTest");
    }

    private static void showsTheExample(String page, String example) {
        List<String> steps = new ArrayList<>();
        for (String block : blocks(page, "java")) {
            Check.due("the example has\n" + block, true, () -> example.contains(block));
            if (block.startsWith("        ")) {
                steps.add(block);
            }
        }
        String head = "main(String[] args) {\n";
        int from = example.indexOf(head) + head.length();
        String body = example.substring(from, example.indexOf("\n    }\n", from) + 1);
        Check.due("the page shows the whole of the example's main", body, () -> String.join("\n", steps));
    }

    private static void namesAllMethods(String page) {
        for (Method m : BarrierFlow.class.getDeclaredMethods()) {
            if (Modifier.isPublic(m.getModifiers())) {
                Check.due("the page names " + m.getName(), true, () -> page.contains("`" + m.getName() + "`"));
            }
        }
    }

    private static List<String> blocks(String page, String kind) {
        List<String> blocks = new ArrayList<>();
        String head = "\n" + FENCE + kind + "\n";
        int at = page.indexOf(head);
        while (at >= 0) {
            int from = at + head.length();
            int to = page.indexOf(FENCE, from);
            blocks.add(page.substring(from, to));
            at = page.indexOf(head, to);
        }
        return blocks;
    }

    private static void copySources(Path copy) throws IOException {
        try (Stream<Path> files = Files.walk(Path.of("src"))) {
            for (Path file : (Iterable<Path>) files::iterator) {
                Files.copy(file, copy.resolve(file.toString()));
            }
        }
    }

    private static String run(String commands, Path folder) throws IOException, InterruptedException {
        Process process = new ProcessBuilder("sh", "-e", "-c", commands).directory(folder.toFile())
                .redirectErrorStream(true).start();
        String printed;
        try (InputStream out = process.getInputStream()) {
            printed = new String(out.readAllBytes(), StandardCharsets.UTF_8);
        }
        int code = process.waitFor();
        if (code != 0) {
            System.out.println(printed);
        }
        Check.due("exit code of\n" + commands, 0, () -> code);
        return printed;
    }

    private static void delete(Path folder) throws IOException {
        try (Stream<Path> files = Files.walk(folder)) {
            for (Path file : (Iterable<Path>) files.sorted(Comparator.reverseOrder())::iterator) {
                Files.delete(file);
            }
        }
    }
}
