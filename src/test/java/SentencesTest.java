import java.io.IOException;
import java.nio.file.Files;
import java.nio.file.Path;
import java.util.TreeSet;
import java.util.regex.Matcher;
import java.util.regex.Pattern;

/** The tests of boundary cases name sentences of every term and of every promise of the document. */
public final class SentencesTest {
    private static final String[] FILES = {"EdgesOfEnteringTest", "EdgesOfValuesTest", "EdgesOfActsTest", "EdgesOfVersionsTest"};

    public static void main(String[] args) throws IOException {
        Bench.about("sentences");
        TreeSet<String> named = new TreeSet<>();
        for (String file : FILES) {
            Matcher m = Pattern.compile("Said\\.(promise|term)\\((\\d+), ").matcher(Files.readString(Path.of("src/test/java/" + file + ".java")));
            while (m.find()) {
                named.add(m.group(1) + " " + m.group(2));
            }
        }
        Matcher m = Pattern.compile("\n## Promise (\\d+):").matcher(Files.readString(Path.of("../shared/DOC.md")));
        int promises = 0;
        while (m.find()) {
            promises++;
            Bench.due("promise " + m.group(1) + " is named", named.contains("promise " + m.group(1)), true);
        }
        Bench.due("promises of the document", promises, 31);
        for (int n = 1; n <= 6; n++) {
            Bench.due("term " + n + " is named", named.contains("term " + n), true);
        }
        Bench.finish();
    }
}
