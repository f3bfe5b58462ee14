import java.io.IOException;
import java.nio.file.DirectoryStream;
import java.nio.file.Files;
import java.nio.file.Path;
import java.util.regex.Matcher;
import java.util.regex.Pattern;

/** README.md: its examples answer what stands behind them, and it names each method and each test. */
public final class ReadmeTest {
    private static final Pattern NEW = Pattern.compile(" {4}PairSymbols x = new PairSymbols\\(\\);.*");
    private static final Pattern TYPE = Pattern.compile(" {4}type\\(x, \"(.*)\"\\);");
    private static final Pattern CALL = Pattern.compile(" {4}x\\.(\\w+)\\(([-\\d, ]*)\\); *// (-?\\d+)\\b.*");
    private static final Due DUE = new Due("ReadmeTest");

    public static void main(String[] args) throws IOException {
        String readme = Files.readString(Path.of("README.md"));
        examples(readme);
        for (String name : Calls.NAMES) {
            DUE.holds("README.md tells " + name, readme.contains("| `" + name + "("));
        }
        try (DirectoryStream<Path> tests = Files.newDirectoryStream(Path.of("src/test/java"), "*Test.java")) {
            for (Path test : tests) {
                String name = test.getFileName().toString().replace(".java", "");
                DUE.holds("README.md names " + name, readme.contains("`" + name + "`"));
            }
        }
        DUE.end();
    }

    private static void examples(String readme) {
        PairSymbols x = null;
        int calls = 0;
        for (String line : readme.split("\n")) {
            Matcher type = TYPE.matcher(line);
            if (NEW.matcher(line).matches()) {
                x = new PairSymbols();
            } else if (type.matches()) {
                for (char c : type.group(1).toCharArray()) {
                    x.type(c);
                }
            } else if (line.startsWith("    x.")) {
                DUE.holds("an answer stands behind:" + line, CALL.matcher(line).matches());
                answer(x, line);
                calls++;
            }
        }
        DUE.holds("there are examples", calls > 20);
    }

    private static void answer(PairSymbols x, String line) {
        Matcher call = CALL.matcher(line);
        if (!call.matches()) {
            return;
        }
        String list = call.group(2).trim();
        String[] parts = list.isEmpty() ? new String[0] : list.split(", *");
        int[] a = new int[parts.length];
        for (int k = 0; k < a.length; k++) {
            a[k] = Integer.parseInt(parts[k]);
        }
        DUE.is(call.group(1) + "(" + list + ")", Calls.call(x, call.group(1), a), Long.parseLong(call.group(3)));
    }
}
