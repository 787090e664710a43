import java.io.ByteArrayOutputStream;
import java.io.PrintStream;
import java.nio.charset.StandardCharsets;
import java.nio.file.Files;
import java.nio.file.Path;
import java.util.stream.Stream;

/** What README.md shows is Example.java, it prints what README.md says, and each test has its line there. */
public final class ReadmeTest {
    private ReadmeTest() {
    }

    public static void main(String[] args) throws Exception {
        Path main = Path.of(args[0]).toAbsolutePath().normalize();
        Path root = main.getParent().getParent().getParent().getParent();
        Path tests = root.resolve("src/test/java");
        String readme = Files.readString(root.resolve("README.md"), StandardCharsets.UTF_8);
        String example = Files.readString(tests.resolve("Example.java"), StandardCharsets.UTF_8);
        Check.same("the example", example, block(readme, "java"));
        Check.same("what it prints", printed(), block(readme, "text"));
        try (Stream<Path> files = Files.list(tests)) {
            for (Path file : files.filter(f -> f.toString().endsWith("Test.java")).sorted().toList()) {
                String name = file.getFileName().toString().replace(".java", "");
                Check.due("README.md has a line for " + name, true, readme.contains("\n| " + name + " | "));
            }
        }
        Check.end();
    }

    /** The first block of such a kind, empty if there is none. */
    private static String block(String readme, String kind) {
        String fence = "```" + kind + "\n";
        int begin = readme.indexOf(fence);
        int end = begin < 0 ? -1 : readme.indexOf("```", begin + fence.length());
        return end < 0 ? "" : readme.substring(begin + fence.length(), end);
    }

    private static String printed() {
        PrintStream before = System.out;
        ByteArrayOutputStream bytes = new ByteArrayOutputStream();
        System.setOut(new PrintStream(bytes, true, StandardCharsets.UTF_8));
        Example.main(new String[0]);
        System.setOut(before);
        return bytes.toString(StandardCharsets.UTF_8).replace("\r\n", "\n");
    }
}
