import java.nio.file.Files;
import java.nio.file.Path;
import java.util.Set;
import java.util.TreeSet;
import java.util.regex.Matcher;
import java.util.regex.Pattern;

/** Makes each call of README.md, on one object, and compares its answer with the one told behind it. */
public final class ReadmeTest {
    private static final Check CHECK = new Check("ReadmeTest");
    private static final Pattern CALL = Pattern.compile("x\\.(\\w+)\\((.*)\\);\\s*// (-?\\d+|true|false|throws)\\b.*");

    public static void main(String[] args) throws Exception {
        LastThanked x = null;
        Set<String> called = new TreeSet<>();
        for (String line : Files.readAllLines(Path.of("README.md"))) {
            Matcher call = CALL.matcher(line);
            if (line.startsWith("LastThanked x =")) {
                x = new LastThanked();
            } else if (line.startsWith("x.")) {
                CHECK.due(line + " tells its answer", call.matches() && x != null, true);
                String asked = call.group(1) + "(" + plain(call.group(2)) + ")";
                CHECK.due(line, Script.answer(x, asked), answer(call.group(3)));
                called.add(call.group(1));
            }
        }
        CHECK.due("calls of the face in README.md " + called, called.size(), 37);
        CHECK.end();
    }

    /** Numbers of base 16 as the ints that they are. */
    private static String plain(String values) {
        return Pattern.compile("0x([0-9A-F]+)").matcher(values)
                .replaceAll(number -> Integer.toString(Integer.parseUnsignedInt(number.group(1), 16)));
    }

    private static long answer(String word) {
        switch (word) {
            case "true":
                return 1;
            case "false":
                return 0;
            case "throws":
                return Script.THROWS;
            default:
                return Long.parseLong(word);
        }
    }
}
