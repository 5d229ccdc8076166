import java.lang.reflect.InvocationTargetException;
import java.lang.reflect.Method;
import java.lang.reflect.Modifier;
import java.util.Arrays;
import java.util.List;
import java.util.Random;

/** Calls with arguments of all kinds: nothing but what a method names may be thrown, and only by a throw of its own. */
public final class WildTest {
    private static final int[] EDGES = {Integer.MIN_VALUE, Integer.MIN_VALUE + 1, -400, -2, -1, 0, 1, 2, 3, 5, 6, 7, 8, 9, 10, 11, 24, 32, 33, 39, 40,
        41, 200, 400, 401, Integer.MAX_VALUE - 1, Integer.MAX_VALUE};

    public static void main(String[] args) throws IllegalAccessException {
        int wrong = 0;
        for (int seed = 0; seed < 300 && wrong == 0; seed++) {
            wrong += run(new Random(seed), seed);
        }
        if (wrong > 0) {
            System.exit(1);
        }
    }

    private static Method[] face() {
        Method[] all = Arrays.stream(SheetBranches.class.getDeclaredMethods()).filter(m -> Modifier.isPublic(m.getModifiers())).toArray(Method[]::new);
        Arrays.sort(all, (a, b) -> a.getName().compareTo(b.getName()));
        return all;
    }

    private static int run(Random chance, int seed) throws IllegalAccessException {
        SheetBranches x = new SheetBranches();
        Method[] face = face();
        for (int i = 0; i < 512; i++) {
            Method m = face[chance.nextInt(face.length)];
            Object[] args = new Object[m.getParameterCount()];
            for (int k = 0; k < args.length; k++) {
                args[k] = m.getParameterTypes()[k] == boolean.class ? (Object) chance.nextBoolean() : (Object) number(chance, m);
            }
            try {
                m.invoke(x, args);
            } catch (InvocationTargetException e) {
                Throwable t = e.getCause();
                List<Class<?>> named = Arrays.asList(m.getExceptionTypes());
                if (!named.contains(t.getClass()) || !t.getStackTrace()[0].getClassName().equals("SheetBranches")) {
                    System.out.println("run " + seed + ": " + m.getName() + Arrays.toString(args) + " threw " + t);
                    return 1;
                }
            }
        }
        return 0;
    }

    private static int number(Random chance, Method m) {
        if (m.getName().equals("feed")) {
            String letters = "=ABC123$:@\"#REF(),+-*/%&<>' SUMIFROWTRUE";
            int four = 0;
            for (int i = 0; i < 4; i++) {
                four = four << 8 | letters.charAt(chance.nextInt(letters.length()));
            }
            return chance.nextInt(12) == 0 ? chance.nextInt() : four;
        }
        int what = chance.nextInt(6);
        return what == 0 ? EDGES[chance.nextInt(EDGES.length)] : what == 1 ? chance.nextInt(20) - 4 : chance.nextInt(5);
    }
}
