import java.util.ArrayList;
import java.util.Collections;
import java.util.Comparator;
import java.util.HashMap;
import java.util.HashSet;
import java.util.LinkedHashMap;
import java.util.List;
import java.util.Map;
import java.util.NoSuchElementException;
import java.util.Objects;
import java.util.Set;
import java.util.TreeSet;

/**
 * The document once more, written for plainness and nothing else (trees, maps, recursion, texts), so that ModelTest
 * can hold its answers against those of SheetBranches.
 */
final class Model {
    static final class Fault extends Exception {
        private static final long serialVersionUID = 1;
        final int kind;
        final int place;

        Fault(int kind, int place) {
            this.kind = kind;
            this.place = place;
        }
    }

    /** An ERROR as a value. */
    record Err(int code) { }

    /** row, column, toRow, toColumn are the things themselves; fixed: one flag for each of them. */
    record Ref(boolean area, List<Integer> ids, List<Boolean> fixed, int version) { }

    /** op: "num" "text" "truth" "ref" "place" "neg", a sign of two, or a NAME. */
    record Node(String op, Object what, List<Node> kids) {
        int parts() {
            int n = 1;
            for (Node kid : kids) {
                n += kid.parts();
            }
            return n;
        }
    }

    /** A formula's content is a Node; others are Long, String, Boolean; nothing is no entry in the map. */
    static final class Page {
        final List<Integer> rows = new ArrayList<>();
        final List<Integer> cols = new ArrayList<>();
        final Map<List<Integer>, Object> cells = new HashMap<>();

        Page twin() {
            Page p = new Page();
            p.rows.addAll(rows);
            p.cols.addAll(cols);
            p.cells.putAll(cells);
            p.tidy();
            return p;
        }

        void tidy() {
            cells.keySet().removeIf(k -> !rows.contains(k.get(0)) || !cols.contains(k.get(1)));
        }

        List<Integer> line(int axis) {
            return axis == 0 ? rows : cols;
        }

        boolean has(int r, int c) {
            return r >= 1 && r <= rows.size() && c >= 1 && c <= cols.size();
        }

        boolean knows(int row, int col) {
            return rows.contains(row) && cols.contains(col);
        }

        Object at(int r, int c) {
            return cells.get(List.of(rows.get(r - 1), cols.get(c - 1)));
        }

        void put(int r, int c, Object what) {
            List<Integer> key = List.of(rows.get(r - 1), cols.get(c - 1));
            if (what == null) {
                cells.remove(key);
            } else {
                cells.put(key, what);
            }
        }

        boolean like(Page o) {
            return rows.equals(o.rows) && cols.equals(o.cols) && cells.equals(o.cells);
        }
    }

    static final class Clash {
        int kind;
        int row;
        int col;
        boolean ours;
        Object our;
        Object their;
        boolean settled;
    }

    private byte[] tape = new byte[0];
    private int faultKind = 0;
    private int faultPlace = 0;
    Page work = new Page();
    final List<Page> versions = new ArrayList<>();
    private final List<Integer> parents = new ArrayList<>();
    private final List<Integer> others = new ArrayList<>();
    private final int[] branches = {0, -1, -1, -1, -1, -1};
    private int gone = 0;
    private int merging = -1;
    private int parts = 0;
    private int joins = 0;
    private int nextId = 1;
    private List<Clash> clashes = new ArrayList<>();
    private final List<Page> past = new ArrayList<>();
    private final List<Page> future = new ArrayList<>();
    private List<int[]> diffs = new ArrayList<>();

    Model() {
        for (int i = 0; i < 8; i++) {
            work.rows.add(nextId++);
        }
        for (int i = 0; i < 6; i++) {
            work.cols.add(nextId++);
        }
        versions.add(work.twin());
        parents.add(-1);
        others.add(-1);
    }

    // ---- the tape and what is entered

    int feed(int... five) {
        if (tape.length + 20 > 400) {
            return -1;
        }
        byte[] next = java.util.Arrays.copyOf(tape, tape.length + 20);
        for (int i = 0; i < 20; i++) {
            next[tape.length + i] = (byte) (five[i / 4] >>> (24 - 8 * (i % 4)));
        }
        tape = next;
        return tape.length;
    }

    boolean end(int n) {
        if (n < 0 || n > tape.length) {
            return false;
        }
        tape = java.util.Arrays.copyOf(tape, n);
        return true;
    }

    int enter(int r, int c) {
        if (!work.has(r, c)) {
            throw new IndexOutOfBoundsException();
        }
        byte[] bytes = tape;
        tape = new byte[0];
        faultKind = 0;
        faultPlace = -1;
        Object content;
        try {
            content = read(bytes);
        } catch (Fault f) {
            faultKind = f.kind;
            faultPlace = f.place;
            throw new IllegalArgumentException();
        }
        int n = content instanceof Node node ? node.parts() : 0;
        if (parts + n > 60000) {
            throw new UnsupportedOperationException();
        }
        parts += n;
        step();
        work.put(r, c, content);
        return n;
    }

    private Object read(byte[] bytes) throws Fault {
        StringBuilder b = new StringBuilder();
        for (byte x : bytes) {
            b.append((char) (x & 255));
        }
        String all = b.toString();
        String body = all.replaceAll("^ +", "");
        int lead = all.length() - body.length();
        body = body.replaceAll(" +$", "");
        if (body.isEmpty()) {
            return null;
        }
        if (body.startsWith("=")) {
            return new Parse(all.substring(0, lead + body.length()), lead + 1, all.length()).formula();
        }
        for (int i = 0; i < all.length(); i++) {
            if (all.charAt(i) < 32 || all.charAt(i) > 126) {
                throw new Fault(1, i);
            }
        }
        Object plain = plainOf(body);
        if (plain instanceof String text && text.length() > 24) {
            throw new Fault(6, lead + (body.startsWith("'") ? 25 : 24));
        }
        return plain;
    }

    private static Object plainOf(String body) {
        if (body.matches("-?[0-9]{1,15}")) {
            return Long.parseLong(body);
        }
        if (body.equals("TRUE") || body.equals("FALSE")) {
            return body.equals("TRUE");
        }
        return body.startsWith("'") ? body.substring(1) : body;
    }

    static final Map<String, int[]> NAMES = new LinkedHashMap<>();

    static {
        NAMES.put("IF", new int[] {3, 3});
        for (String s : "AND OR SUM MIN MAX COUNT".split(" ")) {
            NAMES.put(s, new int[] {1, 8});
        }
        for (String s : "NOT ABS LEN ISERR ROW COL".split(" ")) {
            NAMES.put(s, new int[] {1, 1});
        }
        for (String s : "LEFT RIGHT INDEX MATCH COUNTIF".split(" ")) {
            NAMES.put(s, new int[] {2, 2});
        }
    }

    private static final String GATHER = " AND OR SUM MIN MAX COUNT ";

    /** The grammar, a method a rule. */
    private final class Parse {
        final String s;
        final int size;
        int p;
        int open = 0;
        final List<int[]> late = new ArrayList<>();

        Parse(String s, int p, int size) {
            this.s = s;
            this.p = p;
            this.size = size;
        }

        Node formula() throws Fault {
            Node n = test();
            blanks();
            if (p < s.length()) {
                throw new Fault(1, p);
            }
            late.sort(Comparator.comparingInt(f -> f[1]));
            if (!late.isEmpty()) {
                throw new Fault(late.get(0)[0], late.get(0)[1]);
            }
            if (n.parts() > 60) {
                throw new Fault(5, size);
            }
            return n;
        }

        void blanks() {
            while (p < s.length() && s.charAt(p) == ' ') {
                p++;
            }
        }

        Fault here() {
            return new Fault(1, p < s.length() ? p : size);
        }

        String sign(String... signs) {
            blanks();
            String best = null;
            for (String x : new String[] {"<>", "<=", ">=", "=", "<", ">", "&", "+", "-", "*", "/", "%"}) {
                if (best == null && s.startsWith(x, p)) {
                    best = x;
                }
            }
            for (String x : signs) {
                if (x.equals(best)) {
                    p += x.length();
                    return x;
                }
            }
            return null;
        }

        Node test() throws Fault {
            Node left = chain();
            String x = sign("=", "<>", "<", "<=", ">", ">=");
            return x == null ? left : new Node(x, null, List.of(left, chain()));
        }

        Node chain() throws Fault {
            Node left = sum();
            for (String x = sign("&"); x != null; x = sign("&")) {
                left = new Node(x, null, List.of(left, sum()));
            }
            return left;
        }

        Node sum() throws Fault {
            Node left = product();
            for (String x = sign("+", "-"); x != null; x = sign("+", "-")) {
                left = new Node(x, null, List.of(left, product()));
            }
            return left;
        }

        Node product() throws Fault {
            Node left = signed();
            for (String x = sign("*", "/", "%"); x != null; x = sign("*", "/", "%")) {
                left = new Node(x, null, List.of(left, signed()));
            }
            return left;
        }

        void opens(int place) throws Fault {
            if (open == 20) {
                throw new Fault(2, place);
            }
            open++;
        }

        Node signed() throws Fault {
            blanks();
            if (p < s.length() && s.charAt(p) == '-') {
                opens(p);
                p++;
                Node kid = signed();
                open--;
                return new Node("neg", null, List.of(kid));
            }
            return atom();
        }

        java.util.regex.Matcher match(String regex) {
            java.util.regex.Matcher m = java.util.regex.Pattern.compile(regex, java.util.regex.Pattern.DOTALL).matcher(s);
            m.region(p, s.length());
            m.useTransparentBounds(true);
            return m.lookingAt() ? m : null;
        }

        static final String CORNER = "(\\$?)([A-J])(\\$?)([0-9]{1,2})(?![A-Z0-9])";

        Node atom() throws Fault {
            blanks();
            if (p >= s.length()) {
                throw here();
            }
            java.util.regex.Matcher m = match("[0-9]+");
            if (m != null) {
                if (m.group().length() > 15) {
                    throw new Fault(1, p + 15);
                }
                p = m.end();
                return new Node("num", Long.parseLong(m.group()), List.of());
            }
            if (s.charAt(p) == '"') {
                return text();
            }
            if (s.startsWith("#REF", p)) {
                p += 4;
                return new Node("ref", null, List.of());
            }
            if (match(CORNER) != null) {
                return place(false);
            }
            if (s.charAt(p) == '(') {
                opens(p);
                p++;
                Node kid = test();
                blanks();
                if (p >= s.length() || s.charAt(p) != ')') {
                    throw here();
                }
                p++;
                open--;
                return kid;
            }
            m = match("[A-Z]+");
            if (m == null) {
                throw here();
            }
            if (m.group().equals("TRUE") || m.group().equals("FALSE")) {
                p = m.end();
                return new Node("truth", m.group().equals("TRUE"), List.of());
            }
            if (!NAMES.containsKey(m.group())) {
                throw here();
            }
            return call(m.group());
        }

        Node text() throws Fault {
            int from = p;
            StringBuilder b = new StringBuilder();
            for (p++; p < s.length() && s.charAt(p) != '"'; p++) {
                if (b.length() == 24) {
                    throw new Fault(1, from);
                }
                if (s.charAt(p) < 32 || s.charAt(p) > 126) {
                    throw here();
                }
                b.append(s.charAt(p));
            }
            if (p >= s.length()) {
                throw here();
            }
            p++;
            return new Node("text", b.toString(), List.of());
        }

        Node place(boolean area) throws Fault {
            int from = p;
            List<Integer> places = new ArrayList<>();
            List<Boolean> fixed = new ArrayList<>();
            corner(places, fixed);
            if (p < s.length() && s.charAt(p) == ':') {
                if (!area) {
                    throw here();
                }
                p++;
                if (match(CORNER) == null) {
                    throw new Fault(1, p);
                }
                corner(places, fixed);
            }
            int version = -1;
            if (p < s.length() && s.charAt(p) == '@') {
                p++;
                java.util.regex.Matcher m = match("[0-9]+");
                if (m == null) {
                    throw new Fault(1, p);
                }
                if (m.group().length() > 2) {
                    throw new Fault(1, p + 2);
                }
                version = Integer.parseInt(m.group());
                p = m.end();
            }
            List<Integer> ids = new ArrayList<>();
            Page its = page(version);
            for (int i = 0; its != null && i < places.size(); i++) {
                List<Integer> line = its.line(i % 2);
                int at = places.get(i);
                if (at < 1 || at > line.size()) {
                    its = null;
                } else {
                    ids.add(line.get(at - 1));
                }
            }
            if (its == null) {
                late.add(new int[] {3, from});
            }
            return new Node("place", new Ref(places.size() == 4, ids, fixed, version), List.of());
        }

        void corner(List<Integer> places, List<Boolean> fixed) {
            java.util.regex.Matcher m = match(CORNER);
            places.add(Integer.parseInt(m.group(4)));
            places.add(m.group(2).charAt(0) - 'A' + 1);
            fixed.add(!m.group(3).isEmpty());
            fixed.add(!m.group(1).isEmpty());
            p = m.end();
        }

        Node call(String name) throws Fault {
            int from = p;
            p += name.length();
            blanks();
            if (p >= s.length() || s.charAt(p) != '(') {
                throw here();
            }
            opens(p);
            List<Node> kids = new ArrayList<>();
            do {
                p++;
                blanks();
                kids.add(match(CORNER + ":") != null ? place(true) : test());
                blanks();
            } while (p < s.length() && s.charAt(p) == ',');
            if (p >= s.length() || s.charAt(p) != ')') {
                throw here();
            }
            p++;
            open--;
            boolean right = kids.size() >= NAMES.get(name)[0] && kids.size() <= NAMES.get(name)[1];
            for (int i = 0; i < kids.size(); i++) {
                Node k = kids.get(i);
                boolean area = k.what instanceof Ref ref && ref.area;
                boolean spot = k.what instanceof Ref ref && !ref.area;
                boolean ref = k.op.equals("ref");
                boolean must = (name.equals("INDEX") || name.equals("COUNTIF")) && i == 0 || name.equals("MATCH") && i == 1;
                if (must) {
                    right &= area || ref;
                } else if (name.equals("ROW") || name.equals("COL")) {
                    right &= spot || ref;
                } else if (!GATHER.contains(" " + name + " ")) {
                    right &= !area;
                }
            }
            if (!right) {
                late.add(new int[] {4, from});
            }
            return new Node(name, null, kids);
        }
    }

    int fault(int what) {
        return what == 0 ? faultKind : what == 1 ? faultPlace : -1;
    }

    // ---- values

    private Page page(int version) {
        return version == -1 ? work : version >= 0 && version < versions.size() ? versions.get(version) : null;
    }

    private final Map<List<Integer>, Object> memo = new HashMap<>();
    private final Map<Integer, Set<List<Integer>>> circles = new HashMap<>();

    private void forgetWork() {
        memo.keySet().removeIf(k -> k.get(0) == -1);
        circles.remove(-1);
    }

    Object valueOf(int version, int r, int c) {
        Page page = page(version);
        Object content = page.at(r, c);
        if (!(content instanceof Node node)) {
            return content;
        }
        List<Integer> key = List.of(version, page.rows.get(r - 1), page.cols.get(c - 1));
        if (!memo.containsKey(key)) {
            Object v;
            if (inCircle(version).contains(List.of(page.rows.get(r - 1), page.cols.get(c - 1)))) {
                v = new Err(6);
            } else {
                v = eval(version, node);
                v = v == null ? Long.valueOf(0) : v;
            }
            memo.put(key, v);
        }
        return memo.get(key);
    }

    private Set<List<Integer>> inCircle(int version) {
        if (circles.containsKey(version)) {
            return circles.get(version);
        }
        Page page = page(version);
        Map<List<Integer>, Set<List<Integer>>> leads = new HashMap<>();
        for (Map.Entry<List<Integer>, Object> e : page.cells.entrySet()) {
            if (e.getValue() instanceof Node n) {
                Set<List<Integer>> to = new HashSet<>();
                leadsOf(page, n, to);
                leads.put(e.getKey(), to);
            }
        }
        Set<List<Integer>> in = new HashSet<>();
        for (List<Integer> cell : leads.keySet()) {
            Set<List<Integer>> seen = new HashSet<>();
            List<List<Integer>> todo = new ArrayList<>(leads.get(cell));
            while (!todo.isEmpty()) {
                List<Integer> x = todo.remove(todo.size() - 1);
                if (seen.add(x) && leads.containsKey(x)) {
                    todo.addAll(leads.get(x));
                }
            }
            if (seen.contains(cell)) {
                in.add(cell);
            }
        }
        circles.put(version, in);
        return in;
    }

    private void leadsOf(Page page, Node n, Set<List<Integer>> to) {
        if (n.op.equals("ROW") || n.op.equals("COL")) {
            return;
        }
        if (n.what instanceof Ref ref && ref.version == -1) {
            int[] box = box(page, ref);
            if (box != null) {
                for (int r = box[0]; r <= box[1]; r++) {
                    for (int c = box[2]; c <= box[3]; c++) {
                        to.add(List.of(page.rows.get(r - 1), page.cols.get(c - 1)));
                    }
                }
            }
        }
        for (Node kid : n.kids) {
            leadsOf(page, kid, to);
        }
    }

    /** top, bottom, left, right; null if something is not there. */
    private int[] box(Page page, Ref ref) {
        List<Integer> rows = new ArrayList<>();
        List<Integer> cols = new ArrayList<>();
        for (int i = 0; i < ref.ids.size(); i++) {
            int at = page.line(i % 2).indexOf(ref.ids.get(i)) + 1;
            if (at == 0) {
                return null;
            }
            (i % 2 == 0 ? rows : cols).add(at);
        }
        return new int[] {Collections.min(rows), Collections.max(rows), Collections.min(cols), Collections.max(cols)};
    }

    private List<Object> cellsOf(int version, Ref ref) {
        int v = ref.version == -1 ? version : ref.version;
        int[] box = box(page(v), ref);
        if (box == null) {
            return null;
        }
        List<Object> all = new ArrayList<>();
        for (int r = box[0]; r <= box[1]; r++) {
            for (int c = box[2]; c <= box[3]; c++) {
                all.add(valueOf(v, r, c));
            }
        }
        return all;
    }

    private static boolean isArea(Node n) {
        return n.what instanceof Ref ref && ref.area;
    }

    private static final Object WRONG = new Object();

    private static Object number(Object v) {
        return v == null ? Long.valueOf(0) : v instanceof Long ? v : WRONG;
    }

    private static Object truth(Object v) {
        return v == null ? Boolean.FALSE : v instanceof Boolean ? v : WRONG;
    }

    private static String text(Object v) {
        return v == null ? "" : v instanceof Boolean b ? (b ? "TRUE" : "FALSE") : v.toString();
    }

    private static Object bounded(java.math.BigInteger n) {
        return n.abs().compareTo(java.math.BigInteger.TEN.pow(15)) > 0 ? new Err(4) : (Object) n.longValueExact();
    }

    /** -1, 0, 1; null if they do not compare. */
    private static Integer compare(Object a, Object b) {
        if (a == null && b == null) {
            return 0;
        }
        if (a == null) {
            a = b instanceof Long ? Long.valueOf(0) : b instanceof String ? "" : (Object) false;
        }
        if (b == null) {
            b = a instanceof Long ? Long.valueOf(0) : a instanceof String ? "" : (Object) false;
        }
        if (a instanceof Long x && b instanceof Long y) {
            return x.compareTo(y);
        }
        if (a instanceof String x && b instanceof String y) {
            return Integer.signum(x.compareTo(y));
        }
        if (a instanceof Boolean x && b instanceof Boolean y) {
            return x.compareTo(y);
        }
        return null;
    }

    private Object eval(int version, Node n) {
        switch (n.op) {
            case "num":
            case "text":
            case "truth":
                return n.what;
            case "ref":
                return new Err(1);
            case "place":
                List<Object> cell = cellsOf(version, (Ref) n.what);
                return cell == null ? new Err(1) : cell.get(0);
            case "IF": {
                Object first = eval(version, n.kids.get(0));
                if (first instanceof Err) {
                    return first;
                }
                Object t = truth(first);
                return t == WRONG ? new Err(3) : eval(version, n.kids.get((Boolean) t ? 1 : 2));
            }
            case "ROW":
            case "COL": {
                if (!(n.kids.get(0).what instanceof Ref ref)) {
                    return new Err(1);
                }
                int[] box = box(page(ref.version == -1 ? version : ref.version), ref);
                return box == null ? new Err(1) : (Object) (long) box[n.op.equals("ROW") ? 0 : 2];
            }
            case "ISERR":
                return eval(version, n.kids.get(0)) instanceof Err;
            case "COUNT":
                return count(version, n);
            default:
                break;
        }
        int areaAt = n.op.equals("INDEX") || n.op.equals("COUNTIF") ? 0 : n.op.equals("MATCH") ? 1 : -1;
        List<Object> worked = new ArrayList<>();
        for (int i = 0; i < n.kids.size(); i++) {
            Node kid = n.kids.get(i);
            Object v = i == areaAt || isArea(kid) ? null : eval(version, kid);
            if (v instanceof Err) {
                return v;
            }
            worked.add(v);
        }
        if (areaAt >= 0) {
            Node area = n.kids.get(areaAt);
            List<Object> cells = area.what instanceof Ref ref ? cellsOf(version, ref) : null;
            return cells == null ? new Err(1) : ofArea(n.op, cells, worked.get(1 - areaAt));
        }
        if (GATHER.contains(" " + n.op + " ")) {
            return gather(version, n, worked);
        }
        return plainCall(n.op, worked);
    }

    private Object count(int version, Node n) {
        long numbers = 0;
        for (Node kid : n.kids) {
            if (kid.op.equals("ref")) {
                return new Err(1);
            }
            if (kid.what instanceof Ref ref) {
                List<Object> cells = cellsOf(version, ref);
                if (cells == null) {
                    return new Err(1);
                }
                numbers += cells.stream().filter(v -> v instanceof Long).count();
            } else if (eval(version, kid) instanceof Long) {
                numbers++;
            }
        }
        return numbers;
    }

    private static Object ofArea(String op, List<Object> cells, Object arg) {
        if (op.equals("INDEX")) {
            Object k = number(arg);
            if (k == WRONG) {
                return new Err(3);
            }
            long at = (Long) k;
            return at < 1 || at > cells.size() ? new Err(1) : cells.get((int) at - 1);
        }
        long same = 0;
        for (int i = 0; i < cells.size(); i++) {
            Object v = cells.get(i);
            if (!(v instanceof Err) && Integer.valueOf(0).equals(compare(v, arg))) {
                if (op.equals("MATCH")) {
                    return (long) i + 1;
                }
                same++;
            }
        }
        return op.equals("MATCH") ? new Err(7) : (Object) same;
    }

    private Object gather(int version, Node n, List<Object> worked) {
        boolean truths = n.op.equals("AND") || n.op.equals("OR");
        List<Object> got = new ArrayList<>();
        for (int i = 0; i < n.kids.size(); i++) {
            Node kid = n.kids.get(i);
            if (!isArea(kid)) {
                Object v = truths ? truth(worked.get(i)) : number(worked.get(i));
                if (v == WRONG) {
                    return new Err(3);
                }
                got.add(v);
                continue;
            }
            List<Object> cells = cellsOf(version, (Ref) kid.what);
            if (cells == null) {
                return new Err(1);
            }
            for (Object v : cells) {
                if (v instanceof Err) {
                    return v;
                }
                if (truths ? v instanceof Boolean : v instanceof Long) {
                    got.add(v);
                }
            }
        }
        switch (n.op) {
            case "AND":
                return !got.contains(false);
            case "OR":
                return got.contains(true);
            case "SUM": {
                java.math.BigInteger sum = java.math.BigInteger.ZERO;
                for (Object v : got) {
                    sum = sum.add(java.math.BigInteger.valueOf((Long) v));
                }
                return bounded(sum);
            }
            default: {
                TreeSet<Long> sorted = new TreeSet<>();
                for (Object v : got) {
                    sorted.add((Long) v);
                }
                return sorted.isEmpty() ? new Err(7) : (Object) (n.op.equals("MIN") ? sorted.first() : sorted.last());
            }
        }
    }

    private static Object plainCall(String op, List<Object> a) {
        Object x = a.get(0);
        Object y = a.size() > 1 ? a.get(1) : null;
        switch (op) {
            case "=":
                return Integer.valueOf(0).equals(compare(x, y));
            case "<>":
                return !Integer.valueOf(0).equals(compare(x, y));
            case "<":
                return compare(x, y) == null ? new Err(3) : (Object) (compare(x, y) < 0);
            case "<=":
                return compare(x, y) == null ? new Err(3) : (Object) (compare(x, y) <= 0);
            case ">":
                return compare(x, y) == null ? new Err(3) : (Object) (compare(x, y) > 0);
            case ">=":
                return compare(x, y) == null ? new Err(3) : (Object) (compare(x, y) >= 0);
            case "&": {
                String s = text(x) + text(y);
                return s.length() > 24 ? new Err(5) : (Object) s;
            }
            case "LEN":
                return (long) text(x).length();
            case "LEFT":
            case "RIGHT": {
                Object k = number(y);
                if (k == WRONG || (Long) k < 0) {
                    return new Err(3);
                }
                String s = text(x);
                int m = (int) Math.min(s.length(), (Long) k);
                return op.equals("LEFT") ? s.substring(0, m) : s.substring(s.length() - m);
            }
            case "NOT":
                return truth(x) == WRONG ? new Err(3) : (Object) !(Boolean) truth(x);
            default:
                break;
        }
        Object m = number(x);
        Object k = number(y);
        if (m == WRONG || k == WRONG) {
            return new Err(3);
        }
        java.math.BigInteger p = java.math.BigInteger.valueOf((Long) m);
        java.math.BigInteger q = java.math.BigInteger.valueOf((Long) k);
        switch (op) {
            case "neg":
                return bounded(p.negate());
            case "ABS":
                return bounded(p.abs());
            case "+":
                return bounded(p.add(q));
            case "-":
                return bounded(p.subtract(q));
            case "*":
                return bounded(p.multiply(q));
            case "/":
                return q.signum() == 0 ? new Err(2) : bounded(p.divide(q));
            default:
                return q.signum() == 0 ? new Err(2) : bounded(p.remainder(q));
        }
    }

    private boolean isCell(int v, int r, int c) {
        return page(v) != null && page(v).has(r, c);
    }

    int kind(int v, int r, int c) {
        if (!isCell(v, r, c)) {
            return -1;
        }
        Object x = valueOf(v, r, c);
        return x == null ? 0 : x instanceof Long ? 1 : x instanceof String ? 2 : x instanceof Boolean ? 3 : 4;
    }

    long value(int v, int r, int c) {
        Object x = isCell(v, r, c) ? valueOf(v, r, c) : null;
        return x == null ? 0 : x instanceof Long l ? l : x instanceof String s ? s.length()
                : x instanceof Boolean b ? (b ? 1 : 0) : ((Err) x).code;
    }

    int letter(int v, int r, int c, int i) {
        return isCell(v, r, c) && valueOf(v, r, c) instanceof String s && i >= 0 && i < s.length() ? s.charAt(i) : -1;
    }

    int written(int v, int r, int c, int i) {
        if (!isCell(v, r, c)) {
            return -1;
        }
        String s = text(v, page(v).at(r, c));
        return i >= 0 && i < s.length() ? s.charAt(i) : -1;
    }

    private String text(int v, Object content) {
        if (content instanceof Node n) {
            return "=" + text(v, n, 0);
        }
        if (content instanceof String s) {
            String trimmed = s.replaceAll("^ +", "").replaceAll(" +$", "");
            boolean same = !s.isEmpty() && !s.startsWith("=") && trimmed.equals(s) && s.equals(plainOf(s));
            return same ? s : "'" + s;
        }
        return content == null ? "" : text(content);
    }

    private static int level(String op) {
        switch (op) {
            case "=":
            case "<>":
            case "<":
            case "<=":
            case ">":
            case ">=":
                return 1;
            case "&":
                return 2;
            case "+":
            case "-":
                return 3;
            case "*":
            case "/":
            case "%":
                return 4;
            case "neg":
                return 5;
            default:
                return 9;
        }
    }

    /** As the grammar has it: what comes below the level that its place wants stands in ( ). */
    private String text(int v, Node n, int wanted) {
        int level = level(n.op);
        String s;
        if (level < 5) {
            s = text(v, n.kids.get(0), level == 1 ? 2 : level) + n.op + text(v, n.kids.get(1), level + 1);
        } else if (level == 5) {
            s = "-" + text(v, n.kids.get(0), 5);
        } else if (n.op.equals("ref")) {
            s = "#REF";
        } else if (n.op.equals("text")) {
            s = "\"" + n.what + "\"";
        } else if (n.what instanceof Ref ref) {
            s = place(v, ref);
        } else if (n.kids.isEmpty()) {
            s = text(n.what);
        } else {
            StringBuilder b = new StringBuilder(n.op).append("(");
            for (Node kid : n.kids) {
                b.append(b.charAt(b.length() - 1) == '(' && b.length() == n.op.length() + 1 ? "" : ",").append(text(v, kid, 0));
            }
            s = b.append(")").toString();
        }
        return level < wanted ? "(" + s + ")" : s;
    }

    private String place(int v, Ref ref) {
        Page its = page(ref.version == -1 ? v : ref.version);
        StringBuilder b = new StringBuilder();
        for (int i = 0; i < ref.ids.size(); i += 2) {
            int row = its.rows.indexOf(ref.ids.get(i)) + 1;
            int col = its.cols.indexOf(ref.ids.get(i + 1)) + 1;
            if (row == 0 || col == 0) {
                return "#REF";
            }
            b.append(i > 0 ? ":" : "").append(ref.fixed.get(i + 1) ? "$" : "").append((char) ('A' + col - 1));
            b.append(ref.fixed.get(i) ? "$" : "").append(row);
        }
        return ref.version == -1 ? b.toString() : b + "@" + ref.version;
    }

    // ---- acts

    private void step() {
        past.add(work);
        if (past.size() > 40) {
            past.remove(0);
        }
        future.clear();
        work = work.twin();
        forgetWork();
    }

    private void forget() {
        past.clear();
        future.clear();
        forgetWork();
    }

    private void block(int r, int c, int r2, int c2) {
        if (!work.has(r, c) || !work.has(r2, c2)) {
            throw new IndexOutOfBoundsException();
        }
    }

    int erase(int r, int c, int r2, int c2) {
        block(r, c, r2, c2);
        if (r2 < r || c2 < c) {
            throw new IllegalArgumentException();
        }
        step();
        int n = 0;
        for (int i = r; i <= r2; i++) {
            for (int k = c; k <= c2; k++) {
                n += work.at(i, k) == null ? 0 : 1;
                work.put(i, k, null);
            }
        }
        return n;
    }

    private void axis(int axis) {
        if (axis < 0 || axis > 1) {
            throw new IllegalArgumentException();
        }
    }

    int insert(int axis, int at) {
        axis(axis);
        int n = work.line(axis).size();
        if (at < 1 || at > n + 1) {
            throw new IndexOutOfBoundsException();
        }
        if (n == (axis == 0 ? 32 : 10)) {
            throw new IllegalStateException();
        }
        step();
        work.line(axis).add(at - 1, nextId++);
        return n + 1;
    }

    int remove(int axis, int at) {
        axis(axis);
        int n = work.line(axis).size();
        if (at < 1 || at > n) {
            throw new IndexOutOfBoundsException();
        }
        if (n == 1) {
            throw new IllegalStateException();
        }
        step();
        work.line(axis).remove(at - 1);
        work.tidy();
        return n - 1;
    }

    private int elsewhere(List<Integer> before, List<Integer> after) {
        int n = 0;
        for (int i = 0; i < before.size(); i++) {
            n += before.get(i).equals(after.get(i)) ? 0 : 1;
        }
        return n;
    }

    int move(int axis, int from, int to) {
        axis(axis);
        int n = work.line(axis).size();
        if (from < 1 || from > n || to < 1 || to > n) {
            throw new IndexOutOfBoundsException();
        }
        List<Integer> before = List.copyOf(work.line(axis));
        step();
        Integer id = work.line(axis).remove(from - 1);
        work.line(axis).add(to - 1, id);
        return elsewhere(before, work.line(axis));
    }

    int copy(int r, int c, int r2, int c2, int ar, int ac) {
        block(r, c, r2, c2);
        block(ar, ac, ar, ac);
        if (r2 < r || c2 < c) {
            throw new IllegalArgumentException();
        }
        Page old = work.twin();
        int made = 0;
        Map<List<Integer>, Object> got = new LinkedHashMap<>();
        for (int i = r; i <= r2; i++) {
            for (int k = c; k <= c2; k++) {
                if (!work.has(i - r + ar, k - c + ac)) {
                    continue;
                }
                Object x = old.at(i, k);
                if (x instanceof Node n) {
                    made += n.parts();
                    x = shift(n, ar - r, ac - c);
                }
                got.put(List.of(i - r + ar, k - c + ac), x);
            }
        }
        if (parts + made > 60000) {
            throw new UnsupportedOperationException();
        }
        parts += made;
        step();
        got.forEach((k, x) -> work.put(k.get(0), k.get(1), x));
        return got.size();
    }

    private Node shift(Node n, int down, int right) {
        if (n.what instanceof Ref ref) {
            List<Integer> ids = new ArrayList<>();
            for (int i = 0; i < ref.ids.size(); i++) {
                List<Integer> line = page(ref.version).line(i % 2);
                int at = line.indexOf(ref.ids.get(i));
                int to = at + (i % 2 == 0 ? down : right);
                if (ref.fixed.get(i)) {
                    ids.add(ref.ids.get(i));
                } else if (at < 0 || to < 0 || to >= line.size()) {
                    return new Node("ref", null, List.of());
                } else {
                    ids.add(line.get(to));
                }
            }
            return new Node(n.op, new Ref(ref.area, ids, ref.fixed, ref.version), List.of());
        }
        List<Node> kids = new ArrayList<>();
        for (Node kid : n.kids) {
            kids.add(shift(kid, down, right));
        }
        return new Node(n.op, n.what, kids);
    }

    int sort(int c, int from, int to, boolean turned) {
        if (!work.has(from, c) || !work.has(to, c)) {
            throw new IndexOutOfBoundsException();
        }
        if (to < from) {
            throw new IllegalArgumentException();
        }
        List<Integer> before = List.copyOf(work.rows);
        Map<Integer, Object> keys = new HashMap<>();
        for (int r = from; r <= to; r++) {
            keys.put(before.get(r - 1), valueOf(-1, r, c));
        }
        Comparator<Object> up = (a, b) -> {
            int ka = rank(a);
            int kb = rank(b);
            return ka != kb ? Integer.compare(ka, kb) : ka >= 3 ? 0 : compare(a, b);
        };
        Comparator<Object> by = turned ? up.reversed() : up;
        Comparator<Integer> rows = (x, y) -> {
            Object a = keys.get(x);
            Object b = keys.get(y);
            return a == null || b == null ? Boolean.compare(a == null, b == null) : by.compare(a, b);
        };
        step();
        work.rows.subList(from - 1, to).sort(rows);
        return elsewhere(before, work.rows);
    }

    private static int rank(Object v) {
        return v instanceof Long ? 0 : v instanceof String ? 1 : v instanceof Boolean ? 2 : 3;
    }

    int undo() {
        if (past.isEmpty()) {
            throw new NoSuchElementException();
        }
        future.add(work);
        work = past.remove(past.size() - 1);
        forgetWork();
        return past.size();
    }

    int redo() {
        if (future.isEmpty()) {
            throw new NoSuchElementException();
        }
        past.add(work);
        work = future.remove(future.size() - 1);
        forgetWork();
        return future.size();
    }

    // ---- versions

    private int head() {
        return branches[gone];
    }

    private int unsettled() {
        return (int) clashes.stream().filter(x -> !x.settled).count();
    }

    int commit() {
        if (unsettled() > 0) {
            throw new IllegalStateException();
        }
        if (versions.size() == 40) {
            throw new UnsupportedOperationException();
        }
        versions.add(work.twin());
        parents.add(head());
        others.add(merging);
        branches[gone] = versions.size() - 1;
        merging = -1;
        clashes = new ArrayList<>();
        return head();
    }

    int branch(int b) {
        if (b < 0 || b > 5) {
            throw new IndexOutOfBoundsException();
        }
        if (branches[b] >= 0) {
            throw new IllegalStateException();
        }
        branches[b] = head();
        return head();
    }

    int go(int b) {
        if (b < 0 || b > 5) {
            throw new IndexOutOfBoundsException();
        }
        if (branches[b] < 0) {
            throw new NoSuchElementException();
        }
        if (merging >= 0 || unsettled() > 0 || !work.like(page(head()))) {
            throw new IllegalStateException();
        }
        gone = b;
        return drop();
    }

    int drop() {
        work = page(head()).twin();
        merging = -1;
        clashes = new ArrayList<>();
        forget();
        return head();
    }

    private Set<Integer> ancestors(int v) {
        Set<Integer> all = new HashSet<>();
        List<Integer> todo = new ArrayList<>(List.of(v));
        while (!todo.isEmpty()) {
            int x = todo.remove(todo.size() - 1);
            if (x >= 0 && all.add(x)) {
                todo.add(parents.get(x));
                todo.add(others.get(x));
            }
        }
        return all;
    }

    int base(int a, int b) {
        if (a < 0 || b < 0 || a >= versions.size() || b >= versions.size()) {
            return -1;
        }
        Set<Integer> both = ancestors(a);
        both.retainAll(ancestors(b));
        return Collections.max(both);
    }

    int merge(int b) {
        if (b < 0 || b > 5) {
            throw new IndexOutOfBoundsException();
        }
        if (branches[b] < 0) {
            throw new NoSuchElementException();
        }
        if (joins >= 200) {
            throw new UnsupportedOperationException();
        }
        if (merging >= 0 || unsettled() > 0) {
            throw new IllegalStateException();
        }
        if (ancestors(head()).contains(branches[b])) {
            return -1;
        }
        join(page(branches[b]), page(base(branches[b], head())));
        merging = branches[b];
        return clashes.size();
    }

    int pick(int v) {
        if (v < 1 || v >= versions.size()) {
            throw new NoSuchElementException();
        }
        if (joins >= 200) {
            throw new UnsupportedOperationException();
        }
        if (merging >= 0 || unsettled() > 0) {
            throw new IllegalStateException();
        }
        join(page(v), page(parents.get(v)));
        return clashes.size();
    }

    private void join(Page t, Page b) {
        Page o = work;
        Page made = new Page();
        List<Clash> found = new ArrayList<>();
        for (int axis = 0; axis < 2; axis++) {
            List<Integer> stay = new ArrayList<>();
            Set<Integer> clashing = new HashSet<>();
            Set<Integer> all = new HashSet<>(o.line(axis));
            all.addAll(t.line(axis));
            for (int id : all) {
                boolean both = o.line(axis).contains(id) && t.line(axis).contains(id);
                boolean old = b.line(axis).contains(id);
                Page one = o.line(axis).contains(id) ? o : t;
                if (both || !old) {
                    stay.add(id);
                } else if (changed(one, b, axis, id)) {
                    stay.add(id);
                    clashing.add(id);
                }
            }
            List<Integer> common = new ArrayList<>(o.line(axis));
            common.retainAll(t.line(axis));
            common.retainAll(b.line(axis));
            List<Integer> commonInB = new ArrayList<>(b.line(axis));
            commonInB.retainAll(common);
            boolean asT = common.equals(commonInB);
            List<Integer> order = new ArrayList<>(asT ? t.line(axis) : o.line(axis));
            order.retainAll(stay);
            List<Integer> other = asT ? o.line(axis) : t.line(axis);
            for (int i = 0; i < other.size(); i++) {
                int id = other.get(i);
                if (!stay.contains(id) || order.contains(id)) {
                    continue;
                }
                int k = i - 1;
                while (k >= 0 && !order.contains(other.get(k))) {
                    k--;
                }
                order.add(k < 0 ? 0 : order.indexOf(other.get(k)) + 1, id);
            }
            made.line(axis).addAll(order);
            for (int id : order) {
                if (clashing.contains(id)) {
                    Clash x = new Clash();
                    x.kind = axis + 1;
                    x.row = axis == 0 ? id : -9;
                    x.col = axis == 0 ? -9 : id;
                    x.ours = o.line(axis).contains(id);
                    found.add(x);
                }
            }
        }
        if (made.rows.isEmpty() || made.cols.isEmpty() || made.rows.size() > 32 || made.cols.size() > 10) {
            throw new IllegalStateException();
        }
        for (int row : made.rows) {
            for (int col : made.cols) {
                List<Integer> key = List.of(row, col);
                Object oc = o.cells.get(key);
                Object tc = t.cells.get(key);
                Object bc = b.cells.get(key);
                Object x = null;
                if (o.knows(row, col) && t.knows(row, col)) {
                    if (Objects.equals(tc, bc) || Objects.equals(oc, tc)) {
                        x = oc;
                    } else if (Objects.equals(oc, bc)) {
                        x = tc;
                    } else {
                        x = oc;
                        Clash clash = new Clash();
                        clash.kind = 3;
                        clash.row = row;
                        clash.col = col;
                        clash.our = oc;
                        clash.their = tc;
                        found.add(clash);
                    }
                } else if (o.knows(row, col)) {
                    x = oc;
                } else if (t.knows(row, col)) {
                    x = tc;
                }
                if (x != null) {
                    made.cells.put(key, x);
                }
            }
        }
        joins++;
        work = made;
        clashes = found;
        forget();
    }

    private static boolean changed(Page one, Page b, int axis, int id) {
        for (int other : one.line(1 - axis)) {
            List<Integer> key = axis == 0 ? List.of(id, other) : List.of(other, id);
            if (b.line(1 - axis).contains(other) ? !Objects.equals(one.cells.get(key), b.cells.get(key))
                    : one.cells.get(key) != null) {
                return true;
            }
        }
        return false;
    }

    int conflict(int i, int what) {
        if (i < 0 || i >= clashes.size() || what < 0 || what > 3) {
            return -1;
        }
        Clash x = clashes.get(i);
        return new int[] {x.kind, work.rows.indexOf(x.row) + 1, work.cols.indexOf(x.col) + 1, x.settled ? 1 : 0}[what];
    }

    int choose(int i, boolean theirs) {
        if (i < 0 || i >= clashes.size()) {
            throw new IndexOutOfBoundsException();
        }
        Clash x = clashes.get(i);
        x.settled = true;
        step();
        if (x.kind == 3) {
            if (work.knows(x.row, x.col)) {
                work.put(work.rows.indexOf(x.row) + 1, work.cols.indexOf(x.col) + 1, theirs ? x.their : x.our);
            }
        } else if (theirs ? x.ours : !x.ours) {
            List<Integer> line = work.line(x.kind - 1);
            if (line.size() > 1) {
                line.remove(Integer.valueOf(x.kind == 1 ? x.row : x.col));
                work.tidy();
            }
        }
        return unsettled();
    }

    int diff(int a, int b) {
        Page p = page(a);
        Page q = page(b);
        if (p == null || q == null) {
            throw new NoSuchElementException();
        }
        List<int[]> all = new ArrayList<>();
        for (int axis = 0; axis < 2; axis++) {
            for (int turn = 0; turn < 2; turn++) {
                List<Integer> mine = (turn == 0 ? p : q).line(axis);
                for (int i = 0; i < mine.size(); i++) {
                    if (!(turn == 0 ? q : p).line(axis).contains(mine.get(i))) {
                        all.add(new int[] {1 + 2 * axis + turn, axis == 0 ? i + 1 : 0, axis == 0 ? 0 : i + 1});
                    }
                }
            }
        }
        for (int axis = 0; axis < 2; axis++) {
            List<Integer> x = new ArrayList<>(p.line(axis));
            List<Integer> y = new ArrayList<>(q.line(axis));
            x.retainAll(q.line(axis));
            y.retainAll(p.line(axis));
            if (!x.equals(y)) {
                all.add(new int[] {5 + axis, 0, 0});
            }
        }
        for (int r = 1; r <= q.rows.size(); r++) {
            for (int c = 1; c <= q.cols.size(); c++) {
                List<Integer> key = List.of(q.rows.get(r - 1), q.cols.get(c - 1));
                if (p.knows(key.get(0), key.get(1)) && !Objects.equals(p.cells.get(key), q.cells.get(key))) {
                    all.add(new int[] {7, r, c});
                }
            }
        }
        diffs = all;
        return diffs.size();
    }

    int difference(int i, int what) {
        return i < 0 || i >= diffs.size() || what < 0 || what > 2 ? -1 : diffs.get(i)[what];
    }

    int blame(int r, int c) {
        if (!work.has(r, c)) {
            throw new IndexOutOfBoundsException();
        }
        int v = -1;
        int next = head();
        List<Integer> key = List.of(work.rows.get(r - 1), work.cols.get(c - 1));
        while (next != v) {
            if (v == -1 && !same(next, key)) {
                return -1;
            }
            v = next;
            next = same(parents.get(v), key) ? parents.get(v) : same(others.get(v), key) ? others.get(v) : v;
        }
        return v;
    }

    private boolean same(int v, List<Integer> key) {
        return v >= 0 && page(v).knows(key.get(0), key.get(1))
                && Objects.equals(page(v).cells.get(key), work.cells.get(key));
    }

    int sheet(int v, int what) {
        if (page(v) == null || what < 0 || what > 3) {
            return -1;
        }
        return what < 2 ? page(v).line(what).size()
                : what == 2 ? (v == -1 ? head() : parents.get(v)) : v == -1 ? merging : others.get(v);
    }

    int total(int what) {
        if (what >= 10 && what <= 15) {
            return branches[what - 10];
        }
        return what < 0 || what > 9 ? -1 : new int[] {versions.size(), gone, head(), unsettled(), past.size(),
            future.size(), parts, tape.length, joins, work.like(page(head())) ? 1 : 0}[what];
    }
}
