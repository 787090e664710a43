import java.nio.charset.StandardCharsets;
import java.nio.file.Files;
import java.nio.file.Path;
import java.util.ArrayList;
import java.util.List;
import java.util.regex.Matcher;
import java.util.regex.Pattern;
import java.util.stream.Stream;

/** The sentences that the edge tests quote stand in the document, and each of its promises and parts has one. */
public final class QuotesTest {
    private static final Pattern QUOTE = Pattern.compile("Check\\.sentence\\(\"([^\"]*)\"\\)");

    private QuotesTest() {
    }

    public static void main(String[] args) throws Exception {
        Path main = Path.of(args[0]).toAbsolutePath().normalize();
        Path root = main.getParent().getParent().getParent().getParent();
        String document = Files.readString(root.resolve("../shared/DOC.md"), StandardCharsets.UTF_8);
        List<String> quotes = new ArrayList<>();
        try (Stream<Path> files = Files.list(root.resolve("src/test/java"))) {
            for (Path file : files.filter(f -> f.toString().endsWith("EdgeTest.java")).sorted().toList()) {
                Matcher m = QUOTE.matcher(Files.readString(file, StandardCharsets.UTF_8));
                while (m.find()) {
                    quotes.add(m.group(1));
                    Check.due(file.getFileName() + " quotes " + m.group(1), true, document.contains(m.group(1)));
                }
            }
        }
        promises(document, quotes);
        Check.end();
    }

    private static void promises(String document, List<String> quotes) {
        String[] parts = document.split("(?m)^## Promise ");
        Check.due("promises", 38, parts.length - 1);
        for (int p = 1; p < parts.length; p++) {
            String part = parts[p].split("(?m)^## ")[0];
            boolean quoted = false;
            for (String quote : quotes) {
                quoted |= part.contains(quote);
            }
            Check.due("promise " + part.split("\n")[0] + " is quoted", true, quoted);
        }
    }
}
