import java.io.IOException;
import java.nio.file.Files;
import java.nio.file.Path;
import java.util.ArrayList;
import java.util.Comparator;
import java.util.List;
import java.util.Set;
import java.util.TreeSet;
import java.util.regex.Matcher;
import java.util.regex.Pattern;
import java.util.stream.Stream;

/** What README.md says is true when it is followed word by word, in a copy of the checkout with shared beside it. */
final class ReadmeTests {
    private final Checks checks;

    ReadmeTests(Checks checks) {
        this.checks = checks;
    }

    void runAll(Path readme, Path document) {
        try {
            String page = Files.readString(readme);
            Path top = readme.toAbsolutePath().getParent();
            tellsEachCall(page, Files.readString(document));
            namesEachTest(page, top.resolve("src/test/java"));
            Path copy = Files.createTempDirectory("readme");
            try {
                layOut(copy, page, top, document.toAbsolutePath().normalize().getParent());
                followed(copy, page);
            } finally {
                remove(copy);
            }
        } catch (IOException | InterruptedException e) {
            checks.same("following " + readme, "no exception", e.toString());
        }
    }

    /** The blocks of a kind, without the fences. */
    private static List<String> blocksOf(String page, String kind) {
        List<String> blocks = new ArrayList<>();
        Matcher matcher = Pattern.compile("^```" + kind + "\n(.*?)^```$", Pattern.MULTILINE | Pattern.DOTALL).matcher(page);
        while (matcher.find()) {
            blocks.add(matcher.group(1));
        }
        return blocks;
    }

    private static Set<String> foundIn(String text, String pattern) {
        Set<String> found = new TreeSet<>();
        Matcher matcher = Pattern.compile(pattern, Pattern.MULTILINE).matcher(text);
        while (matcher.find()) {
            found.add(matcher.group(1));
        }
        return found;
    }

    /** The table has the calls of the document's face, with the names of their arguments, and no others. */
    private void tellsEachCall(String page, String document) {
        Set<String> due = new TreeSet<>();
        for (String call : foundIn(document, "^    public (?:int )?(\\w+\\([^)]*\\))")) {
            due.add(call.replaceAll("\\b(?:int|long) ", ""));
        }
        checks.same("the calls in README.md", due.toString(), foundIn(page, "^\\| `(\\w+\\([^)]*\\))` \\|").toString());
    }

    private void namesEachTest(String page, Path tests) throws IOException {
        Set<String> due = new TreeSet<>();
        try (Stream<Path> files = Files.list(tests)) {
            files.forEach(file -> due.add(file.getFileName().toString()));
        }
        Set<String> named = foundIn(page, "`(\\w+\\.java)`");
        named.remove("Evening.java");
        checks.same("the tests in README.md", due.toString(), named.toString());
    }

    private static void layOut(Path copy, String page, Path top, Path shared) throws IOException {
        Path main = copy.resolve("main");
        Path source = main.resolve("src/main/java");
        Files.createDirectories(source);
        Files.copy(top.resolve("src/main/java/DepotCharge.java"), source.resolve("DepotCharge.java"));
        Files.writeString(main.resolve("Evening.java"), String.join("", blocksOf(page, "java")));
        Files.createSymbolicLink(copy.resolve("shared"), shared);
    }

    /** Runs the lines for a shell but those that would come back here, and compares what the first ones print. */
    private void followed(Path copy, String page) throws IOException, InterruptedException {
        List<String> lines = blocksOf(page, "sh");
        lines.removeIf(block -> block.contains("AllTests") || block.contains(".ci/run"));
        checks.same("blocks to follow in README.md", 2, lines.size());
        for (int i = 0; i < lines.size(); i++) {
            Path script = Files.writeString(copy.resolve("lines.sh"), lines.get(i));
            Path printed = copy.resolve("printed");
            int code = new ProcessBuilder("sh", "-e", script.toString()).directory(copy.resolve("main").toFile())
                .redirectErrorStream(true).redirectOutput(printed.toFile()).start().waitFor();
            checks.same("the exit code of: " + lines.get(i) + Files.readString(printed), 0, code);
            if (i == 0) {
                checks.same("what Evening prints", String.join("", blocksOf(page, "text")), Files.readString(printed));
            }
        }
    }

    private static void remove(Path folder) throws IOException {
        List<Path> all;
        try (Stream<Path> walk = Files.walk(folder)) {
            all = walk.sorted(Comparator.reverseOrder()).toList();
        }
        for (Path path : all) {
            Files.delete(path);
        }
    }
}
