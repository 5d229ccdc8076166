import java.io.IOException;
import java.lang.reflect.Constructor;
import java.lang.reflect.Field;
import java.lang.reflect.Method;
import java.lang.reflect.Modifier;
import java.nio.file.Files;
import java.nio.file.Path;
import java.util.ArrayList;
import java.util.Arrays;
import java.util.List;
import java.util.TreeSet;
import java.util.regex.Matcher;
import java.util.regex.Pattern;

/** The class has the face that the document shows, and no words that ../shared/LANGUAGE.md forbids. */
public final class FaceTest {
    public static void main(String[] args) throws IOException {
        TreeSet<String> due = faceOfTheDocument();
        TreeSet<String> got = new TreeSet<>();
        TreeSet<String> names = new TreeSet<>();
        for (Method m : SheetBranches.class.getDeclaredMethods()) {
            if (!Modifier.isPrivate(m.getModifiers())) {
                got.add(described(m));
                names.add(m.getName());
            }
        }
        Bench.about("face");
        Bench.due("methods", got, due);
        Bench.due("how many", got.size(), 30);
        Bench.due("final", Modifier.isFinal(SheetBranches.class.getModifiers()), true);
        Constructor<?>[] constructors = SheetBranches.class.getDeclaredConstructors();
        Bench.due("constructors", constructors.length + " " + Modifier.isPublic(constructors[0].getModifiers()), "1 true");
        fields();
        for (Class<?> inside : SheetBranches.class.getDeclaredClasses()) {
            Bench.due(inside.getName() + " is static", Modifier.isStatic(inside.getModifiers()), true);
            for (Method m : inside.getDeclaredMethods()) {
                Bench.due(inside.getName() + "." + m.getName() + " bears a name of the face", names.contains(m.getName()), false);
            }
        }
        for (Method m : SheetBranches.class.getDeclaredMethods()) {
            Bench.due(m.getName() + " bears a name of the face", Modifier.isPrivate(m.getModifiers()) && names.contains(m.getName()), false);
        }
        forbiddenWords();
        Bench.finish();
    }

    private static void fields() {
        for (Field f : SheetBranches.class.getDeclaredFields()) {
            boolean shown = f.getName().equals("NONE");
            Bench.due(f.getName() + " is shown", !Modifier.isPrivate(f.getModifiers()), shown);
            if (Modifier.isStatic(f.getModifiers())) {
                Bench.due(f.getName() + " is final", Modifier.isFinal(f.getModifiers()), true);
            }
        }
    }

    private static String described(Method m) {
        List<String> types = new ArrayList<>();
        for (Class<?> c : m.getParameterTypes()) {
            types.add(c.getSimpleName());
        }
        List<String> thrown = new ArrayList<>();
        for (Class<?> c : m.getExceptionTypes()) {
            thrown.add(c.getSimpleName());
        }
        return m.getReturnType().getSimpleName() + " " + m.getName() + types + thrown;
    }

    private static TreeSet<String> faceOfTheDocument() throws IOException {
        TreeSet<String> face = new TreeSet<>();
        String doc = Files.readString(Path.of("../shared/DOC.md"));
        Matcher m = Pattern.compile("    public (\\w+) (\\w+)\\(([^)]*)\\)(?: throws ([^;]*))?;").matcher(doc);
        while (m.find()) {
            List<String> types = new ArrayList<>();
            for (String p : m.group(3).isEmpty() ? new String[0] : m.group(3).split(", ")) {
                types.add(p.split(" ")[0]);
            }
            List<String> thrown = m.group(4) == null ? List.of() : Arrays.asList(m.group(4).split(", "));
            face.add(m.group(1) + " " + m.group(2) + types + thrown);
        }
        return face;
    }

    private static void forbiddenWords() throws IOException {
        Bench.about("language");
        String source = Files.readString(Path.of("src/main/java/SheetBranches.java"));
        String code = source.replaceAll("(?s)/\\*.*?\\*/", "").replaceAll("//[^\n]*", "").replaceAll("\"[^\"\n]*\"", "\"\"");
        String[] forbidden = {"\\bcatch\\b", "\\bfinally\\b", "\\bsynchronized\\b", "\\bassert\\b", "->", "::", "static \\{", "Exact\\(", "\\bpackage\\b",
            "\\bSystem\\.(?!arraycopy)", "\\bObject\\b", "hashCode", "toString", "\\.equals\\(", "\"\" *\\+", "\\+ *\"\"", "\\bdouble\\b", "\\bfloat\\b",
            "import (?!java\\.util\\.(Arrays|NoSuchElementException);)", "\\bArrays\\.(?!copyOf\\()", "\\]\\[", "\\[\\]\\["};
        for (String word : forbidden) {
            Bench.due(word + " stands in the class", Pattern.compile(word).matcher(code).find(), false);
        }
    }
}
