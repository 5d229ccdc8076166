import java.util.Random;
import java.util.function.LongSupplier;

/** Runs of calls by chance (always the same ones), each answer held against the one of Model. */
public final class ModelTest {
    private static final String[] GATHERING = {"AND", "OR", "SUM", "MIN", "MAX", "COUNT"};
    private static final String[] SIGNS = {"=", "<>", "<", "<=", ">", ">=", "&", "+", "-", "*", "/", "%"};

    /** More than the document allows for: the class goes on all the same, and more is met in one run. */
    private static final int MOST_CALLS = 1000;

    private final Random chance;
    private final SheetBranches x = new SheetBranches();
    private final Model m = new Model();
    private final StringBuilder story = new StringBuilder();
    private final int style;
    private int calls;
    private boolean wrong;

    private ModelTest(long seed) {
        chance = new Random(seed);
        style = (int) (seed % 5);
    }

    public static void main(String[] args) {
        int from = args.length > 0 ? Integer.parseInt(args[0]) : 0;
        int runs = args.length > 1 ? Integer.parseInt(args[1]) : 250;
        int failed = 0;
        for (int seed = from; seed < from + runs && failed < 3; seed++) {
            ModelTest test = new ModelTest(seed);
            test.run();
            if (test.wrong) {
                failed++;
                System.out.println("run " + seed + ":" + test.story);
            }
        }
        if (failed > 0) {
            System.exit(1);
        }
    }

    private int up(int n) {
        return chance.nextInt(n);
    }

    private boolean one(int in) {
        return chance.nextInt(in) == 0;
    }

    private static String outcome(LongSupplier call) {
        try {
            return Long.toString(call.getAsLong());
        } catch (RuntimeException e) {
            String from = e.getStackTrace().length > 0 ? e.getStackTrace()[0].getClassName() : "";
            boolean own = from.startsWith("SheetBranches") || from.startsWith("Model");
            return "throws." + e.getClass().getSimpleName() + (own ? "" : " by itself");
        }
    }

    private void same(String call, LongSupplier got, LongSupplier due) {
        if (wrong || calls >= MOST_CALLS) {
            return;
        }
        calls++;
        String g = outcome(got);
        String d = outcome(due);
        story.append("\n  ").append(call).append(" -> ").append(g);
        if (!g.equals(d)) {
            story.append("   DUE ").append(d);
            wrong = true;
        }
    }

    private void run() {
        for (int turn = style == 3 ? 0 : up(40); turn > 0; turn--) {
            enter(text());
        }
        while (calls < MOST_CALLS && !wrong) {
            act();
            look();
            if (style == 2 && one(25)) {
                round();
            }
        }
    }

    /** Two branches that went apart are put together. */
    private void round() {
        int b = up(4);
        settleAll();
        same("commit()", x::commit, m::commit);
        same("branch(" + b + ")", () -> x.branch(b), () -> m.branch(b));
        int back = x.total(1);
        edits();
        same("commit()", x::commit, m::commit);
        same("go(" + b + ")", () -> x.go(b), () -> m.go(b));
        edits();
        same("commit()", x::commit, m::commit);
        same("merge(" + back + ")", () -> x.merge(back), () -> m.merge(back));
        conflicts();
    }

    private void settleAll() {
        for (int i = 0; x.conflict(i, 0) != SheetBranches.NONE && !wrong; i++) {
            choose(i);
        }
    }

    private void edits() {
        for (int turn = up(8); turn > 0; turn--) {
            int what = up(10);
            int axis = up(2);
            int at = axis == 0 ? row() : column();
            int to = axis == 0 ? row() : column();
            if (what < 6) {
                enter(text());
            } else if (what < 7) {
                same("insert(" + axis + ", " + at + ")", () -> x.insert(axis, at), () -> m.insert(axis, at));
            } else if (what < 9) {
                same("remove(" + axis + ", " + at + ")", () -> x.remove(axis, at), () -> m.remove(axis, at));
            } else {
                same("move(" + axis + ", " + at + ", " + to + ")", () -> x.move(axis, at, to), () -> m.move(axis, at, to));
            }
        }
    }

    private int row() {
        return one(30) ? up(40) - 3 : 1 + up(Math.min(x.sheet(-1, 0), style == 0 ? 5 : 9));
    }

    private int column() {
        return one(30) ? up(14) - 2 : 1 + up(Math.min(x.sheet(-1, 1), style == 0 ? 3 : 5));
    }

    private int version() {
        return one(20) ? up(50) - 5 : up(3) > 0 ? -1 : up(x.total(0));
    }

    private void act() {
        int what = up(100);
        int[] until = style == 1 ? new int[] {40, 43, 53, 60, 64, 68, 72, 76, 78}
                : style == 2 ? new int[] {30, 32, 37, 41, 45, 47, 50, 54, 56}
                : new int[] {55, 58, 63, 67, 71, 77, 81, 87, 91};
        if (what < until[0]) {
            enter(text());
        } else if (what < until[1]) {
            int a = row();
            int b = column();
            int c = a + up(4) - (one(15) ? 2 : 0);
            int d = b + up(3) - (one(15) ? 2 : 0);
            same("erase(" + a + ", " + b + ", " + c + ", " + d + ")", () -> x.erase(a, b, c, d), () -> m.erase(a, b, c, d));
        } else if (what < until[2]) {
            int a = one(30) ? up(5) - 2 : up(2);
            int b = a == 0 ? row() : column();
            same("insert(" + a + ", " + b + ")", () -> x.insert(a, b), () -> m.insert(a, b));
        } else if (what < until[3]) {
            int a = one(30) ? up(5) - 2 : up(2);
            int b = a == 0 ? row() : column();
            same("remove(" + a + ", " + b + ")", () -> x.remove(a, b), () -> m.remove(a, b));
        } else if (what < until[4]) {
            int a = one(30) ? up(5) - 2 : up(2);
            int b = a == 0 ? row() : column();
            int c = a == 0 ? row() : column();
            same("move(" + a + ", " + b + ", " + c + ")", () -> x.move(a, b, c), () -> m.move(a, b, c));
        } else if (what < until[5]) {
            int a = row();
            int b = column();
            int c = a + up(style == 3 ? 9 : 3) - (one(15) ? 2 : 0);
            int d = b + up(3) - (one(15) ? 2 : 0);
            int e = row();
            int f = column();
            same("copy(" + a + ", " + b + ", " + c + ", " + d + ", " + e + ", " + f + ")",
                    () -> x.copy(a, b, c, d, e, f), () -> m.copy(a, b, c, d, e, f));
        } else if (what < until[6]) {
            int a = column();
            int b = row();
            int c = one(5) ? row() : b + up(6);
            boolean d = one(2);
            same("sort(" + a + ", " + b + ", " + c + ", " + d + ")", () -> x.sort(a, b, c, d), () -> m.sort(a, b, c, d));
        } else if (what < until[7]) {
            if (up(5) > 1) {
                same("undo()", x::undo, m::undo);
            } else {
                same("redo()", x::redo, m::redo);
            }
        } else {
            versionAct();
        }
    }

    private void versionAct() {
        int what = up(12);
        int b = one(20) ? up(9) - 2 : up(style == 2 ? 3 : 6);
        if (what < 3) {
            same("commit()", x::commit, m::commit);
        } else if (what < 4) {
            same("branch(" + b + ")", () -> x.branch(b), () -> m.branch(b));
        } else if (what < 6) {
            if (!one(3)) {
                same("commit()", x::commit, m::commit);
            }
            same("go(" + b + ")", () -> x.go(b), () -> m.go(b));
        } else if (what < 7 && one(2)) {
            same("drop()", x::drop, m::drop);
        } else if (what < 9) {
            same("merge(" + b + ")", () -> x.merge(b), () -> m.merge(b));
            conflicts();
        } else if (what < 11) {
            int v = one(10) ? up(45) - 3 : up(x.total(0));
            same("pick(" + v + ")", () -> x.pick(v), () -> m.pick(v));
            conflicts();
        } else {
            choose(up(4) - (one(9) ? 1 : 0));
        }
    }

    private void conflicts() {
        int n = x.total(3);
        for (int i = 0; i < Math.min(n, 6); i++) {
            for (int w = 0; w < 4; w++) {
                conflict(i, w);
            }
        }
        int settle = one(3) ? up(n + 1) : n;
        for (int i = 0; i < settle; i++) {
            choose(i);
        }
    }

    private void conflict(int i, int w) {
        same("conflict(" + i + ", " + w + ")", () -> x.conflict(i, w), () -> m.conflict(i, w));
    }

    private void choose(int i) {
        boolean theirs = one(2);
        same("choose(" + i + ", " + theirs + ")", () -> x.choose(i, theirs), () -> m.choose(i, theirs));
    }

    private void look() {
        for (int turn = up(4); turn > 0; turn--) {
            int v = version();
            int a = row();
            int b = column();
            int i = up(12) - (one(12) ? 2 : 0);
            int w = up(17) - (one(20) ? 2 : 0);
            switch (up(9)) {
                case 0:
                case 1:
                case 2:
                    same("kind(" + v + ", " + a + ", " + b + ")", () -> x.kind(v, a, b), () -> m.kind(v, a, b));
                    same("value(" + v + ", " + a + ", " + b + ")", () -> x.value(v, a, b), () -> m.value(v, a, b));
                    break;
                case 3:
                    same("letter(" + v + ", " + a + ", " + b + ", " + i + ")", () -> x.letter(v, a, b, i), () -> m.letter(v, a, b, i));
                    break;
                case 4:
                    same("blame(" + a + ", " + b + ")", () -> x.blame(a, b), () -> m.blame(a, b));
                    break;
                case 5:
                    int v2 = version();
                    same("diff(" + v + ", " + v2 + ")", () -> x.diff(v, v2), () -> m.diff(v, v2));
                    same("base(" + v + ", " + v2 + ")", () -> x.base(v, v2), () -> m.base(v, v2));
                    break;
                case 6:
                    int w2 = up(4) - (one(9) ? 1 : 0);
                    same("difference(" + i + ", " + w2 + ")", () -> x.difference(i, w2), () -> m.difference(i, w2));
                    break;
                case 7:
                    same("total(" + w + ")", () -> x.total(w), () -> m.total(w));
                    break;
                default:
                    int w3 = up(5) - (one(9) ? 1 : 0);
                    same("sheet(" + v + ", " + w3 + ")", () -> x.sheet(v, w3), () -> m.sheet(v, w3));
                    break;
            }
        }
        wholeSheet();
    }

    /** Not counted as calls of the run: nothing of these changes an answer. */
    private void wholeSheet() {
        if (!one(8) || wrong) {
            return;
        }
        int v = version();
        int before = calls;
        int size = story.length();
        for (int a = 1; a <= x.sheet(v, 0) && !wrong; a++) {
            for (int b = 1; b <= x.sheet(v, 1) && !wrong; b++) {
                cell(v, a, b);
            }
        }
        calls = before;
        if (!wrong) {
            story.setLength(size);
        }
    }

    private void cell(int v, int a, int b) {
        calls = 0;
        same("kind(" + v + ", " + a + ", " + b + ")", () -> x.kind(v, a, b), () -> m.kind(v, a, b));
        same("value(" + v + ", " + a + ", " + b + ")", () -> x.value(v, a, b), () -> m.value(v, a, b));
        for (int i = 0; i < 25; i++) {
            int k = i;
            same("letter(" + v + ", " + a + ", " + b + ", " + k + ")", () -> x.letter(v, a, b, k), () -> m.letter(v, a, b, k));
        }
        for (int i = 0; i < 480; i++) {
            int k = i;
            if (x.written(v, a, b, k) != m.written(v, a, b, k)) {
                same("written(" + v + ", " + a + ", " + b + ", " + k + ")", () -> x.written(v, a, b, k), () -> m.written(v, a, b, k));
            }
        }
    }

    private void enter(String text) {
        byte[] bytes = new byte[(text.length() + 19) / 20 * 20];
        for (int i = 0; i < bytes.length; i++) {
            bytes[i] = i < text.length() ? (byte) text.charAt(i) : 32;
        }
        for (int i = 0; i + 20 <= bytes.length; i += 20) {
            int[] f = new int[5];
            for (int k = 0; k < 20; k++) {
                f[k / 4] = f[k / 4] << 8 | bytes[i + k] & 255;
            }
            same("feed(" + f[0] + ", ..)", () -> x.feed(f[0], f[1], f[2], f[3], f[4]), () -> m.feed(f));
        }
        int n = one(12) ? text.length() + up(60) - 30 : text.length();
        if (!one(15)) {
            same("end(" + n + ")", () -> x.end(n) ? 1 : 0, () -> m.end(n) ? 1 : 0);
        }
        int a = row();
        int b = column();
        same("enter(" + a + ", " + b + ") of " + text, () -> x.enter(a, b), () -> m.enter(a, b));
        for (int w = 0; w < 2; w++) {
            int k = w;
            if (x.fault(k) != m.fault(k)) {
                same("fault(" + k + ")", () -> x.fault(k), () -> m.fault(k));
            }
        }
    }

    private String text() {
        String s;
        int what = up(style == 3 ? 30 : 12);
        if (what == 0) {
            s = plainText();
        } else if (what == 1) {
            s = one(2) ? "TRUE" : "FALSE";
        } else if (what < 4) {
            s = (one(3) ? "-" : "") + number();
        } else {
            s = "=" + test(1 + up(one(6) ? 6 : 3));
        }
        if (one(8)) {
            s = spoilt(s);
        }
        s = (one(15) ? "  " : "") + s + (one(20) ? "  " : "");
        return s.length() > 400 ? s.substring(0, 400) : s;
    }

    private String spoilt(String s) {
        StringBuilder b = new StringBuilder(s);
        String letters = " A1J9$@:#\"'()-+*/%&<>=,.xTRUESUMIF0\t\u0080~";
        for (int turn = 1 + up(2); turn > 0; turn--) {
            int at = up(b.length() + 1);
            char c = letters.charAt(up(letters.length()));
            switch (up(5)) {
                case 0:
                    b.insert(at, c);
                    break;
                case 1:
                    if (at < b.length()) {
                        b.deleteCharAt(at);
                    }
                    break;
                case 2:
                    if (at < b.length()) {
                        b.setCharAt(at, c);
                    }
                    break;
                case 3:
                    b.setLength(Math.max(1, at));
                    break;
                default:
                    b.insert(at, String.valueOf(one(2) ? '(' : '-').repeat(up(24)));
                    break;
            }
        }
        return b.toString();
    }

    private String plainText() {
        String[] some = {"'", "'12", "''", "' x", "abc", "b", "'=1", "x y", "-", "'TRUE", "12345678901234567", "a\"b", "-1-",
            "abcdefghijklmnopqrstuvwx", "abcdefghijklmnopqrstuvwxy", "'abcdefghijklmnopqrstuvwx", "'abcdefghijklmnopqrstuvwxy", "", "ab"};
        return some[up(some.length)];
    }

    private String number() {
        String[] some = {"0", "1", "2", "3", "5", "10", "007", "999999999999999", "100000000", "31622777", "99", "000000000000001"};
        return some[up(some.length)];
    }

    private String blank() {
        return one(12) ? " " : "";
    }

    private String test(int depth) {
        if (depth <= 0) {
            return atom(0);
        }
        int what = up(10);
        if (what < 2) {
            return atom(depth);
        }
        if (what < 3) {
            return "-" + test(depth - 1);
        }
        if (what < 4) {
            return "(" + blank() + test(depth - 1) + ")";
        }
        if (what < 7) {
            return call(depth);
        }
        return test(depth - 1) + blank() + SIGNS[up(SIGNS.length)] + blank() + test(depth - 1);
    }

    private String corner() {
        int rows = x.sheet(-1, 0);
        int columns = x.sheet(-1, 1);
        int r = one(60) ? up(40) : 1 + up(Math.min(rows, style == 0 ? 5 : rows));
        int c = one(60) ? up(10) : up(Math.min(columns, style == 0 ? 3 : columns));
        return (one(4) ? "$" : "") + (char) ('A' + c) + (one(4) ? "$" : "") + (one(20) ? "0" : "") + r;
    }

    private String at() {
        return one(5) ? "@" + (one(25) ? up(50) : up(x.total(0))) : "";
    }

    private String area() {
        return one(25) ? "#REF" : corner() + ":" + corner() + at();
    }

    private String atom(int depth) {
        switch (up(9)) {
            case 0:
                return one(20) ? "#REF" : number();
            case 1:
                return number();
            case 2:
                return "\"" + (one(3) ? "" : one(4) ? "12345678901234567890" : "ab") + "\"";
            case 3:
                return one(2) ? "TRUE" : "FALSE";
            default:
                return corner() + at();
        }
    }

    private String call(int depth) {
        switch (up(13)) {
            case 0:
                return "IF(" + test(depth - 1) + "," + test(depth - 1) + "," + test(depth - 1) + ")";
            case 1:
                return (one(2) ? "LEFT(" : "RIGHT(") + test(depth - 1) + "," + test(depth - 1) + ")";
            case 2:
                return "INDEX(" + area() + "," + test(depth - 1) + ")";
            case 3:
                return "MATCH(" + test(depth - 1) + "," + area() + ")";
            case 4:
                return "COUNTIF(" + area() + "," + test(depth - 1) + ")";
            case 5:
                return (one(2) ? "ROW(" : "COL(") + (one(9) ? "#REF" : corner() + at()) + ")";
            case 6:
                return "ISERR(" + test(depth - 1) + ")";
            case 7:
                return (one(3) ? "NOT(" : one(2) ? "ABS(" : "LEN(") + test(depth - 1) + ")";
            default:
                StringBuilder b = new StringBuilder(GATHERING[up(GATHERING.length)]).append(blank()).append("(");
                for (int n = one(30) ? 9 : 1 + up(3); n > 0; n--) {
                    b.append(blank()).append(one(2) ? area() : test(depth - 1)).append(n > 1 ? "," : "");
                }
                return b.append(")").toString();
        }
    }
}
