import java.io.IOException;
import java.nio.file.Files;
import java.nio.file.Path;
import java.util.ArrayList;
import java.util.List;
import java.util.function.Supplier;

/** What README.md shows is what the class does: every line of its examples, in their order. */
public final class ReadmeTest {
    private static final int NONE = SheetBranches.NONE;
    private static final String OWN_FILE = "src/test/java/ReadmeTest.java";

    private final List<String> lines;
    private int at;

    private ReadmeTest(List<String> lines) {
        this.lines = lines;
    }

    public static void main(String[] args) throws IOException {
        Bench.about("README");
        List<String> lines = examples();
        int helpers = lines.indexOf("SheetBranches x = new SheetBranches();");
        Bench.due("the helpers are those of this test", Files.readString(Path.of(OWN_FILE)).replaceAll("\\s+", " ")
                .contains(String.join(" ", lines.subList(0, Math.max(helpers, 0)))), true);
        new ReadmeTest(lines.subList(Math.max(helpers, 0), lines.size())).run();
        Bench.finish();
    }

    /** The lines of all blocks of Java, without blanks at their ends. */
    private static List<String> examples() throws IOException {
        List<String> found = new ArrayList<>();
        boolean inside = false;
        for (String line : Files.readAllLines(Path.of("README.md"))) {
            if (line.startsWith("```")) {
                inside = line.equals("```java");
            } else if (inside && !line.isBlank()) {
                found.add(line.trim());
            }
        }
        return found;
    }

    private void run() {
        SheetBranches x = new SheetBranches();
        at = 1;
        line("enter(x, \"4\", 1, 1);", () -> enter(x, "4", 1, 1));
        line("enter(x, \"=SUM(A1:A2) + 1\", 3, 1);", () -> enter(x, "=SUM(A1:A2) + 1", 3, 1));
        line("x.kind(NONE, 3, 1);", () -> x.kind(NONE, 3, 1));
        line("x.value(NONE, 3, 1);", () -> x.value(NONE, 3, 1));
        line("x.insert(0, 2);", () -> x.insert(0, 2));
        line("written(x, NONE, 4, 1);", () -> written(x, NONE, 4, 1));
        line("x.undo();", x::undo);
        line("enter(x, \"=A1+\", 2, 1);", () -> enter(x, "=A1+", 2, 1));
        line("x.fault(0);", () -> x.fault(0));
        line("x.fault(1);", () -> x.fault(1));
        line("x.commit();", x::commit);
        line("x.branch(1);", () -> x.branch(1));
        line("enter(x, \"=A1@1 * 10\", 1, 1);", () -> enter(x, "=A1@1 * 10", 1, 1));
        line("x.commit();", x::commit);
        line("x.go(1);", () -> x.go(1));
        line("enter(x, \"7\", 1, 1);", () -> enter(x, "7", 1, 1));
        line("x.commit();", x::commit);
        line("x.diff(2, 3);", () -> x.diff(2, 3));
        line("x.merge(0);", () -> x.merge(0));
        line("x.conflict(0, 0);", () -> x.conflict(0, 0));
        line("x.commit();", x::commit);
        line("x.choose(0, true);", () -> x.choose(0, true));
        line("x.commit();", x::commit);
        line("x.value(NONE, 1, 1);", () -> x.value(NONE, 1, 1));
        line("x.blame(1, 1);", () -> x.blame(1, 1));
        line("x.base(2, 3);", () -> x.base(2, 3));
        Bench.due("lines of the examples", lines.size(), at);
    }

    /** The next line is this call, and behind it stands what it answers. */
    private void line(String code, Supplier<Object> call) {
        String told = at < lines.size() ? lines.get(at) : "";
        int behind = told.indexOf("//");
        Bench.due("line " + at, behind < 0 ? told : told.substring(0, behind).trim(), code);
        String comment = behind < 0 ? "" : told.substring(behind + 2).trim();
        int words = comment.indexOf(": ");
        Bench.due(code, answer(call), words < 0 ? comment : comment.substring(0, words));
        at++;
    }

    private static String answer(Supplier<Object> call) {
        try {
            return String.valueOf(call.get());
        } catch (RuntimeException e) {
            return "throws." + e.getClass().getSimpleName();
        }
    }

    static int enter(SheetBranches x, String text, int row, int column) {
        for (int i = 0; i < text.length(); i += 20) {
            int[] five = new int[5];
            for (int k = 0; k < 20; k++) {
                five[k / 4] = five[k / 4] << 8 | (i + k < text.length() ? text.charAt(i + k) : ' ');
            }
            x.feed(five[0], five[1], five[2], five[3], five[4]);
        }
        x.end(text.length());
        return x.enter(row, column);
    }

    static String written(SheetBranches x, int version, int row, int column) {
        StringBuilder text = new StringBuilder();
        for (int i = 0; x.written(version, row, column, i) != SheetBranches.NONE; i++) {
            text.append((char) x.written(version, row, column, i));
        }
        return text.toString();
    }
}
