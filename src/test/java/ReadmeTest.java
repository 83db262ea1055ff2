import java.io.IOException;
import java.nio.file.Files;
import java.nio.file.Path;
import java.util.regex.Matcher;
import java.util.regex.Pattern;

/** The examples of README.md, which must answer what stands beside them. */
public final class ReadmeTest {
    private static final Pattern MADE =
            Pattern.compile("CampusNet net = new CampusNet\\((\\d+, \\d+, \\d+)\\);");
    private static final Pattern CALL =
            Pattern.compile("net\\.(\\w+)\\((.*)\\);\\s*// (-?\\d+|true|false)(:.*)?");

    public static void main(String[] args) throws IOException {
        Check check = new Check();
        CampusNet net = null;
        int count = 0;
        for (String row : Files.readAllLines(Path.of("README.md"))) {
            Matcher made = MADE.matcher(row);
            Matcher call = CALL.matcher(row);
            if (made.matches()) {
                net = Check.made(made.group(1).replace(",", ""));
            } else if (call.matches()) {
                String words = asNumbers(call.group(1) + " " + call.group(2).replace(",", ""));
                int want = Integer.parseInt(asNumbers(call.group(3)));
                check.due("README.md: " + row, Check.answerOf(net, words.trim()), want);
                count++;
            } else {
                check.due("README.md: a row that is no call: " + row, row.startsWith("net."), false);
            }
        }
        check.due("README.md has examples", count > 0, true);
        check.end();
    }

    private static String asNumbers(String words) {
        return words.replace("true", "1").replace("false", "0");
    }
}
