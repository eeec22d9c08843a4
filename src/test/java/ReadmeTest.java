import java.io.IOException;
import java.nio.file.Files;
import java.nio.file.Path;
import java.util.List;
import java.util.regex.Matcher;
import java.util.regex.Pattern;

/** The calls of README.md, in their order, answer what stands behind them there. */
public final class ReadmeTest {
    private static final Pattern CALL = Pattern.compile("x\\.(\\w+\\(.*\\));\\s+// (-?\\d+)(:.*)?");
    private static final Pattern SIGN = Pattern.compile("'(.)'");

    public static void main(String[] args) throws IOException {
        StonesOver x = new StonesOver();
        boolean isExample = false;
        List<String> lines = Files.readAllLines(Path.of("README.md"));
        for (String line : lines) {
            if (line.startsWith("```")) {
                isExample = line.equals("```java");
            } else if (isExample && line.startsWith("x.")) {
                ask(x, line);
            }
        }
        eachTestIsTold(lines);
        Due.close("ReadmeTest");
    }

    private static void ask(StonesOver x, String line) {
        Matcher told = CALL.matcher(line);
        if (!told.matches()) {
            Due.is("README.md tells an answer: " + line, 0, 1);
            return;
        }
        String call = SIGN.matcher(told.group(1)).replaceAll(sign -> String.valueOf((int) sign.group(1).charAt(0)));
        Due.is("README.md: " + told.group(1), Calls.ask(x, call), Long.parseLong(told.group(2)));
    }

    private static void eachTestIsTold(List<String> lines) throws IOException {
        String whole = String.join("\n", lines);
        try (var files = Files.list(Path.of("src/test/java"))) {
            for (Path file : files.sorted().toList()) {
                String name = file.getFileName().toString().replace(".java", "");
                Due.is("README.md tells of " + name, whole.contains("`" + name + "`") ? 1 : 0, 1);
            }
        }
    }
}
