import java.util.Arrays;
import java.util.NoSuchElementException;

/** Sheets with versions in branches; ../shared/DOC.md says what each call promises. */
public final class SheetBranches {
    public static final int NONE = -1;

    private static final int MOST_ROWS = 32;
    private static final int MOST_COLUMNS = 10;
    private static final int MOST_CELLS = 320;
    private static final int MOST_VERSIONS = 40;
    private static final int MOST_BRANCHES = 6;
    private static final int MOST_STEPS = 40;
    private static final int MOST_JOINS = 200;
    private static final int FIRST_ROWS = 8;
    private static final int FIRST_COLUMNS = 6;
    private static final int TAPE_ROOM = 400;
    private static final int FEED_BYTES = 20;
    private static final int TEXT_ROOM = 24;
    private static final int NUMBER_DIGITS = 15;
    private static final int MOST_OPEN = 20;
    private static final int MOST_PARTS = 60;
    private static final int MOST_PARTS_MADE = 60000;
    private static final int MOST_DIFFERENCES = 406;
    private static final long GREATEST = 1000000000000000L;

    private static final int ROWS = 0;
    private static final int COLUMNS = 1;

    private static final int NOTHING = 0;
    private static final int NUMBER = 1;
    private static final int TEXT = 2;
    private static final int TRUTH = 3;
    private static final int ERROR = 4;
    private static final int FORMULA = 5;
    /** Stands on the stack for a SPOT or AREA that the call above it looks at by itself. */
    private static final int PLACE = 6;

    private static final int NO_REF = 1;
    private static final int NO_DIVISOR = 2;
    private static final int WRONG_TYPE = 3;
    private static final int TOO_BIG = 4;
    private static final int TOO_LONG = 5;
    private static final int IN_CIRCLE = 6;
    private static final int NOT_FOUND = 7;

    private static final int EQUAL = 1;
    private static final int UNLIKE = 2;
    private static final int LESS = 3;
    private static final int AT_MOST = 4;
    private static final int MORE = 5;
    private static final int AT_LEAST = 6;
    private static final int JOIN = 7;
    private static final int PLUS = 8;
    private static final int MINUS = 9;
    private static final int TIMES = 10;
    private static final int OVER = 11;
    private static final int REST = 12;
    private static final int NEGATE = 13;
    private static final int LITERAL = 14;
    private static final int REF = 15;
    private static final int SPOT = 16;
    private static final int AREA = 17;
    private static final int IF = 18;
    private static final int AND = 19;
    private static final int OR = 20;
    private static final int SUM = 21;
    private static final int MIN = 22;
    private static final int MAX = 23;
    private static final int COUNT = 24;
    private static final int NOT = 25;
    private static final int ABS = 26;
    private static final int LEN = 27;
    private static final int ISERR = 28;
    private static final int ROW = 29;
    private static final int COL = 30;
    private static final int LEFT = 31;
    private static final int RIGHT = 32;
    private static final int INDEX = 33;
    private static final int MATCH = 34;
    private static final int COUNTIF = 35;

    /** The signs EQUAL to REST, SIGN_WIDTH characters each. */
    private static final String SIGNS = "= <>< <=> >=& + - * / % ";
    private static final int SIGN_WIDTH = 2;
    /** The names IF to COUNTIF, NAME_WIDTH characters each. */
    private static final String NAMES =
            "IF      AND     OR      SUM     MIN     MAX     COUNT   NOT     ABS     LEN     ISERR   ROW     COL     LEFT    RIGHT   INDEX   MATCH   COUNTIF ";
    private static final int NAME_WIDTH = 8;
    private static final int[] LEAST_ARGS = {3, 1, 1, 1, 1, 1, 1, 1, 1, 1, 1, 1, 1, 2, 2, 2, 2, 2};
    private static final int[] MOST_ARGS = {3, 8, 8, 8, 8, 8, 8, 1, 1, 1, 1, 1, 1, 2, 2, 2, 2, 2};

    private static final int COMPARING = 1;
    private static final int SIGNED = 5;
    private static final int ALONE = 6;

    private static final int FIXED_ROW = 1;
    private static final int FIXED_COLUMN = 2;
    private static final int FIXED_ALL = 15;

    private final Reader reader = new Reader();
    private final Writer writer = new Writer();
    private final Log log = new Log();
    private final Worker worker = new Worker(log.sheets);
    private final Merger merger = new Merger();
    private final Steps steps = new Steps();
    private final Value nothing = new Value(0);
    /** Where the values of the working sheet are, whichever sheet that is: made once, used again. */
    private final Value[] workingRoom = new Value[MOST_CELLS];
    private final int[] branches = new int[MOST_BRANCHES];
    private final int[] differences = new int[3 * MOST_DIFFERENCES];
    private int differenceCount;
    private Sheet working;
    private int gone;
    private int merging = NONE;
    private int partsMade;
    private int joinsDone;
    private int latestRow = FIRST_ROWS;
    private int latestColumn = FIRST_COLUMNS;

    public SheetBranches() {
        Sheet first = new Sheet(countedUp(FIRST_ROWS), countedUp(FIRST_COLUMNS));
        log.add(first, NONE, NONE);
        working = first.twin();
        for (int i = 1; i < branches.length; i++) {
            branches[i] = NONE;
        }
    }

    public int feed(int a, int b, int c, int d, int e) {
        if (reader.length > TAPE_ROOM - FEED_BYTES) {
            return NONE;
        }
        reader.add(a);
        reader.add(b);
        reader.add(c);
        reader.add(d);
        reader.add(e);
        return reader.length;
    }

    public boolean end(int n) {
        if (n < 0 || n > reader.length) {
            return false;
        }
        reader.length = n;
        return true;
    }

    public int enter(int row, int column)
            throws IndexOutOfBoundsException, IllegalArgumentException, UnsupportedOperationException {
        if (!working.has(row, column)) {
            throw new IndexOutOfBoundsException();
        }
        Content content = reader.read(working, log);
        if (reader.faultKind != 0) {
            throw new IllegalArgumentException();
        }
        int parts = partsOf(content);
        if (parts > MOST_PARTS_MADE - partsMade) {
            throw new UnsupportedOperationException();
        }
        partsMade += parts;
        Sheet next = working.twin();
        next.put(row, column, content);
        step(next);
        return parts;
    }

    public int fault(int what) {
        if (what == 0) {
            return reader.faultKind;
        }
        return what == 1 ? reader.faultPlace : NONE;
    }

    public int erase(int row, int column, int toRow, int toColumn)
            throws IndexOutOfBoundsException, IllegalArgumentException {
        if (!working.has(row, column) || !working.has(toRow, toColumn)) {
            throw new IndexOutOfBoundsException();
        }
        if (toRow < row || toColumn < column) {
            throw new IllegalArgumentException();
        }
        Sheet next = working.twin();
        int had = 0;
        for (int r = row; r <= toRow; r++) {
            for (int c = column; c <= toColumn; c++) {
                had += working.at(r, c) != null ? 1 : 0;
                next.put(r, c, null);
            }
        }
        step(next);
        return had;
    }

    public int insert(int axis, int at)
            throws IllegalArgumentException, IndexOutOfBoundsException, IllegalStateException {
        if (!isAxis(axis)) {
            throw new IllegalArgumentException();
        }
        int[] line = working.line(axis);
        if (at < 1 || at > line.length + 1) {
            throw new IndexOutOfBoundsException();
        }
        if (line.length >= mostOf(axis)) {
            throw new IllegalStateException();
        }
        int[] wider = with(line, at, newcomer(axis));
        step(working.shapedAlong(axis, wider));
        return wider.length;
    }

    public int remove(int axis, int at)
            throws IllegalArgumentException, IndexOutOfBoundsException, IllegalStateException {
        if (!isAxis(axis)) {
            throw new IllegalArgumentException();
        }
        int[] line = working.line(axis);
        if (at < 1 || at > line.length) {
            throw new IndexOutOfBoundsException();
        }
        if (line.length == 1) {
            throw new IllegalStateException();
        }
        step(working.shapedAlong(axis, without(line, at)));
        return line.length - 1;
    }

    public int move(int axis, int from, int to) throws IllegalArgumentException, IndexOutOfBoundsException {
        if (!isAxis(axis)) {
            throw new IllegalArgumentException();
        }
        int[] line = working.line(axis);
        if (from < 1 || from > line.length || to < 1 || to > line.length) {
            throw new IndexOutOfBoundsException();
        }
        step(working.shapedAlong(axis, with(without(line, from), to, line[from - 1])));
        return from == to ? 0 : Math.abs(from - to) + 1;
    }

    public int copy(int row, int column, int toRow, int toColumn, int atRow, int atColumn)
            throws IndexOutOfBoundsException, IllegalArgumentException, UnsupportedOperationException {
        if (!working.has(row, column) || !working.has(toRow, toColumn) || !working.has(atRow, atColumn)) {
            throw new IndexOutOfBoundsException();
        }
        if (toRow < row || toColumn < column) {
            throw new IllegalArgumentException();
        }
        int height = Math.min(toRow - row, working.rows.length - atRow) + 1;
        int width = Math.min(toColumn - column, working.columns.length - atColumn) + 1;
        int parts = partsWithin(row, column, height, width);
        if (parts > MOST_PARTS_MADE - partsMade) {
            throw new UnsupportedOperationException();
        }
        partsMade += parts;
        Sheet next = working.twin();
        for (int r = 0; r < height; r++) {
            for (int c = 0; c < width; c++) {
                Content content = working.at(row + r, column + c);
                next.put(atRow + r, atColumn + c, shifted(content, atRow - row, atColumn - column));
            }
        }
        step(next);
        return height * width;
    }

    public int sort(int column, int from, int to, boolean turned)
            throws IndexOutOfBoundsException, IllegalArgumentException {
        if (!working.has(from, column) || !working.has(to, column)) {
            throw new IndexOutOfBoundsException();
        }
        if (to < from) {
            throw new IllegalArgumentException();
        }
        ready(NONE);
        int[] places = placesInOrder(column, from, to, turned);
        int[] rows = working.rows.clone();
        int elsewhere = 0;
        for (int i = 0; i < places.length; i++) {
            rows[from - 1 + i] = working.rows[places[i] - 1];
            elsewhere += places[i] != from + i ? 1 : 0;
        }
        step(working.shapedAlong(ROWS, rows));
        return elsewhere;
    }

    public int undo() throws NoSuchElementException {
        if (steps.doneCount == 0) {
            throw new NoSuchElementException();
        }
        show(steps.back(working));
        return steps.doneCount;
    }

    public int redo() throws NoSuchElementException {
        if (steps.undoneCount == 0) {
            throw new NoSuchElementException();
        }
        show(steps.again(working));
        return steps.undoneCount;
    }

    public int commit() throws IllegalStateException, UnsupportedOperationException {
        if (merger.unsettled() > 0) {
            throw new IllegalStateException();
        }
        if (log.count >= MOST_VERSIONS) {
            throw new UnsupportedOperationException();
        }
        branches[gone] = log.add(working.twin(), head(), merging);
        merging = NONE;
        merger.count = 0;
        return head();
    }

    public int branch(int branch) throws IndexOutOfBoundsException, IllegalStateException {
        if (!isBranch(branch)) {
            throw new IndexOutOfBoundsException();
        }
        if (branches[branch] != NONE) {
            throw new IllegalStateException();
        }
        branches[branch] = head();
        return head();
    }

    public int go(int branch) throws IndexOutOfBoundsException, NoSuchElementException, IllegalStateException {
        if (!isBranch(branch)) {
            throw new IndexOutOfBoundsException();
        }
        if (branches[branch] == NONE) {
            throw new NoSuchElementException();
        }
        if (isBusy() || !isLikeHead()) {
            throw new IllegalStateException();
        }
        gone = branch;
        return drop();
    }

    public int drop() {
        merging = NONE;
        merger.count = 0;
        steps.forget();
        Sheet now = log.at(head());
        if (now != null) {
            show(now.twin());
        }
        return head();
    }

    public int merge(int branch)
            throws IndexOutOfBoundsException, NoSuchElementException, UnsupportedOperationException,
            IllegalStateException {
        if (!isBranch(branch)) {
            throw new IndexOutOfBoundsException();
        }
        int theirs = branches[branch];
        if (theirs == NONE) {
            throw new NoSuchElementException();
        }
        if (joinsDone >= MOST_JOINS) {
            throw new UnsupportedOperationException();
        }
        if (isBusy()) {
            throw new IllegalStateException();
        }
        int common = log.commonOf(head(), theirs);
        if (common == theirs) {
            return NONE;
        }
        Sheet next = merger.join(working, log.at(theirs), log.at(common));
        if (next == null) {
            throw new IllegalStateException();
        }
        merging = theirs;
        showJoined(next);
        return merger.count;
    }

    public int pick(int version)
            throws NoSuchElementException, UnsupportedOperationException, IllegalStateException {
        if (version <= 0 || version >= log.count) {
            throw new NoSuchElementException();
        }
        if (joinsDone >= MOST_JOINS) {
            throw new UnsupportedOperationException();
        }
        if (isBusy()) {
            throw new IllegalStateException();
        }
        Sheet next = merger.join(working, log.at(version), log.at(log.parents[version]));
        if (next == null) {
            throw new IllegalStateException();
        }
        showJoined(next);
        return merger.count;
    }

    public int conflict(int i, int what) {
        Conflict one = merger.at(i);
        if (one == null) {
            return NONE;
        }
        switch (what) {
            case 0:
                return one.kind;
            case 1:
                return working.placeOf(ROWS, one.row);
            case 2:
                return working.placeOf(COLUMNS, one.column);
            case 3:
                return one.settled ? 1 : 0;
            default:
                return NONE;
        }
    }

    public int choose(int i, boolean theirs) throws IndexOutOfBoundsException {
        Conflict one = merger.at(i);
        if (one == null) {
            throw new IndexOutOfBoundsException();
        }
        one.settled = true;
        step(settled(one, theirs));
        return merger.unsettled();
    }

    public int base(int one, int other) {
        return log.at(one) == null || log.at(other) == null ? NONE : log.commonOf(one, other);
    }

    public int diff(int one, int other) throws NoSuchElementException {
        Sheet first = sheetOf(one);
        Sheet second = sheetOf(other);
        if (first == null || second == null) {
            throw new NoSuchElementException();
        }
        differenceCount = 0;
        noteOnly(1, ROWS, first, second);
        noteOnly(2, ROWS, second, first);
        noteOnly(3, COLUMNS, first, second);
        noteOnly(4, COLUMNS, second, first);
        if (!inSameOrder(first.rows, second.rows, second.rows)) {
            noteDifference(5, 0, 0);
        }
        if (!inSameOrder(first.columns, second.columns, second.columns)) {
            noteDifference(6, 0, 0);
        }
        noteCells(first, second);
        return differenceCount;
    }

    public int difference(int i, int what) {
        if (i < 0 || i >= differenceCount || what < 0 || what > 2) {
            return NONE;
        }
        return differences[3 * i + what];
    }

    public int blame(int row, int column) throws IndexOutOfBoundsException {
        if (!working.has(row, column)) {
            throw new IndexOutOfBoundsException();
        }
        int rowId = working.rows[row - 1];
        int columnId = working.columns[column - 1];
        Content content = working.at(row, column);
        if (!log.holds(head(), rowId, columnId, content)) {
            return NONE;
        }
        int version = head();
        for (int turn = 0; turn < MOST_VERSIONS; turn++) {
            if (log.holds(log.parents[version], rowId, columnId, content)) {
                version = log.parents[version];
            } else if (log.holds(log.others[version], rowId, columnId, content)) {
                version = log.others[version];
            } else {
                return version;
            }
        }
        return version;
    }

    public int sheet(int version, int what) {
        Sheet asked = sheetOf(version);
        if (asked == null) {
            return NONE;
        }
        switch (what) {
            case 0:
                return asked.rows.length;
            case 1:
                return asked.columns.length;
            case 2:
                return version == NONE ? head() : log.parents[version];
            case 3:
                return version == NONE ? merging : log.others[version];
            default:
                return NONE;
        }
    }

    public int kind(int version, int row, int column) {
        if (!isCell(version, row, column)) {
            return NONE;
        }
        ready(version);
        return seen(version, row, column).kind;
    }

    public long value(int version, int row, int column) {
        if (!isCell(version, row, column)) {
            return 0;
        }
        ready(version);
        return seen(version, row, column).number;
    }

    public int letter(int version, int row, int column, int i) {
        if (!isCell(version, row, column)) {
            return NONE;
        }
        ready(version);
        Value cell = seen(version, row, column);
        return cell.kind == TEXT && i >= 0 && i < cell.number && i < cell.bytes.length ? cell.bytes[i] : NONE;
    }

    public int written(int version, int row, int column, int i) {
        if (!isCell(version, row, column)) {
            return NONE;
        }
        Sheet asked = sheetOf(version);
        if (asked == null) {
            return NONE;
        }
        writer.write(asked.at(row, column), asked, log);
        return writer.letterAt(i);
    }

    public int total(int what) {
        switch (what) {
            case 0:
                return log.count;
            case 1:
                return gone;
            case 2:
                return head();
            case 3:
                return merger.unsettled();
            case 4:
                return steps.doneCount;
            case 5:
                return steps.undoneCount;
            case 6:
                return partsMade;
            case 7:
                return reader.length;
            case 8:
                return joinsDone;
            case 9:
                return isLikeHead() ? 1 : 0;
            default:
                return isBranch(what - 10) ? branches[what - 10] : NONE;
        }
    }

    private static int[] countedUp(int n) {
        int[] line = new int[Math.max(n, 0)];
        for (int i = 0; i < line.length; i++) {
            line[i] = i + 1;
        }
        return line;
    }

    private static boolean isAxis(int axis) {
        return axis == ROWS || axis == COLUMNS;
    }

    private static int mostOf(int axis) {
        return axis == ROWS ? MOST_ROWS : MOST_COLUMNS;
    }

    /** The line with one more at a place from 1 on. */
    private static int[] with(int[] line, int at, int id) {
        int[] wider = new int[line.length + 1];
        for (int i = 0; i < wider.length; i++) {
            int from = i < at - 1 ? i : i - 1;
            wider[i] = i == at - 1 || from < 0 ? id : line[from];
        }
        return wider;
    }

    /** The line without the one at a place from 1 on, which it has. */
    private static int[] without(int[] line, int at) {
        int[] narrower = new int[Math.max(line.length - 1, 0)];
        for (int i = 0; i < narrower.length; i++) {
            narrower[i] = line[i < at - 1 ? i : i + 1];
        }
        return narrower;
    }

    private static int placeIn(int[] line, int count, int id) {
        for (int i = 0; i < count && i < line.length; i++) {
            if (line[i] == id) {
                return i + 1;
            }
        }
        return 0;
    }

    /** Whether two lines have in the same order what all three have. */
    private static boolean inSameOrder(int[] one, int[] other, int[] third) {
        int next = 0;
        for (int i = 0; i < one.length; i++) {
            int id = one[i];
            if (placeIn(other, other.length, id) == 0 || placeIn(third, third.length, id) == 0) {
                continue;
            }
            while (next < other.length && (placeIn(one, one.length, other[next]) == 0
                    || placeIn(third, third.length, other[next]) == 0)) {
                next++;
            }
            if (next >= other.length || other[next] != id) {
                return false;
            }
            next++;
        }
        return true;
    }

    private static boolean isFormula(Content content) {
        return content != null && content.kind == FORMULA;
    }

    private static int partsOf(Content content) {
        return content != null ? content.parts.length : 0;
    }

    private static int bindsOf(int op) {
        if (op <= AT_LEAST) {
            return COMPARING;
        }
        if (op <= MINUS) {
            return op == JOIN ? 2 : 3;
        }
        if (op <= REST) {
            return 4;
        }
        return op == NEGATE ? SIGNED : ALONE;
    }

    private static boolean isDigit(int b) {
        return b >= '0' && b <= '9';
    }

    private static boolean isLetter(int b) {
        return b >= 'A' && b <= 'Z';
    }

    private static boolean isPlain(int b) {
        return b >= 32 && b <= 126;
    }

    /** Whether bytes from one place up to another one are a NUMBER as it is entered. */
    private static boolean isNumber(byte[] bytes, int from, int to) {
        int first = from < to && from < bytes.length && bytes[from] == '-' ? from + 1 : from;
        if (to - first < 1 || to - first > NUMBER_DIGITS) {
            return false;
        }
        for (int i = first; i < to && i < bytes.length; i++) {
            if (!isDigit(bytes[i])) {
                return false;
            }
        }
        return true;
    }

    private static boolean isWord(byte[] bytes, int from, int to, String word) {
        if (to - from != word.length() || to > bytes.length) {
            return false;
        }
        for (int i = 0; i < word.length(); i++) {
            if (bytes[from + i] != word.charAt(i)) {
                return false;
            }
        }
        return true;
    }

    private static boolean isTruth(byte[] bytes, int from, int to) {
        return isWord(bytes, from, to, "TRUE") || isWord(bytes, from, to, "FALSE");
    }

    private static boolean isBranch(int branch) {
        return branch >= 0 && branch < MOST_BRANCHES;
    }

    private int head() {
        return branches[gone];
    }

    private int newcomer(int axis) {
        if (axis == ROWS) {
            latestRow++;
            return latestRow;
        }
        latestColumn++;
        return latestColumn;
    }

    private Sheet sheetOf(int version) {
        return version == NONE ? working : log.at(version);
    }

    private boolean isCell(int version, int row, int column) {
        Sheet asked = sheetOf(version);
        return asked != null && asked.has(row, column);
    }

    private boolean isLikeHead() {
        Sheet now = log.at(head());
        return now != null && working.isLike(now);
    }

    private boolean isBusy() {
        return merging != NONE || merger.unsettled() > 0;
    }

    private void step(Sheet next) {
        steps.add(working);
        show(next);
    }

    /** The sheet that was shown loses its values, since their room is used again. */
    private void show(Sheet next) {
        working.values = null;
        working = next;
    }

    private int partsWithin(int row, int column, int height, int width) {
        int parts = 0;
        for (int r = 0; r < height; r++) {
            for (int c = 0; c < width; c++) {
                parts += partsOf(working.at(row + r, column + c));
            }
        }
        return parts;
    }

    private Content shifted(Content content, int down, int right) {
        if (!isFormula(content)) {
            return content;
        }
        Part[] parts = new Part[content.parts.length];
        for (int i = 0; i < parts.length; i++) {
            Part part = content.parts[i];
            Sheet its = sheetOf(part.version);
            parts[i] = part.isPlace() && its != null ? part.shifted(its, down, right) : part;
        }
        return new Content(FORMULA, null, parts);
    }

    /** The places of rows, sorted by putting in one after the other, so that those alike keep their order. */
    private int[] placesInOrder(int column, int from, int to, boolean turned) {
        int[] places = new int[Math.max(to - from + 1, 0)];
        for (int i = 0; i < places.length; i++) {
            Value coming = seen(NONE, from + i, column);
            int at = i;
            while (at > 0 && orderOf(seen(NONE, places[at - 1], column), coming, turned) > 0) {
                places[at] = places[at - 1];
                at--;
            }
            places[at] = from + i;
        }
        return places;
    }

    private static int orderOf(Value one, Value other, boolean turned) {
        if (one.kind == NOTHING || other.kind == NOTHING) {
            return (one.kind == NOTHING ? 1 : 0) - (other.kind == NOTHING ? 1 : 0);
        }
        int order = one.kind - other.kind;
        if (order == 0 && one.kind != ERROR) {
            order = one.compared(other);
        }
        return turned ? -order : order;
    }

    private void showJoined(Sheet next) {
        joinsDone++;
        steps.forget();
        show(next);
    }

    private Sheet settled(Conflict one, boolean theirs) {
        int row = working.placeOf(ROWS, one.row);
        int column = working.placeOf(COLUMNS, one.column);
        if (one.kind == 3) {
            Sheet next = working.twin();
            next.put(row, column, theirs ? one.their : one.our);
            return next;
        }
        int axis = one.kind == 1 ? ROWS : COLUMNS;
        int at = one.kind == 1 ? row : column;
        int[] line = working.line(axis);
        boolean goes = theirs == one.isOurs;
        return goes && at > 0 && line.length > 1 ? working.shapedAlong(axis, without(line, at)) : working.twin();
    }

    private void noteDifference(int number, int row, int column) {
        if (differenceCount >= MOST_DIFFERENCES) {
            return;
        }
        differences[3 * differenceCount] = number;
        differences[3 * differenceCount + 1] = row;
        differences[3 * differenceCount + 2] = column;
        differenceCount++;
    }

    private void noteOnly(int number, int axis, Sheet having, Sheet lacking) {
        int[] line = having.line(axis);
        for (int i = 0; i < line.length; i++) {
            if (lacking.placeOf(axis, line[i]) == 0) {
                noteDifference(number, axis == ROWS ? i + 1 : 0, axis == ROWS ? 0 : i + 1);
            }
        }
    }

    private void noteCells(Sheet first, Sheet second) {
        for (int r = 1; r <= second.rows.length; r++) {
            for (int c = 1; c <= second.columns.length; c++) {
                int row = first.placeOf(ROWS, second.rows[r - 1]);
                int column = first.placeOf(COLUMNS, second.columns[c - 1]);
                if (first.has(row, column) && !Content.alike(first.at(row, column), second.at(r, c))) {
                    noteDifference(7, r, c);
                }
            }
        }
    }

    /** Works out a sheet, and ahead of it the versions that its formulas look at, the earliest first. */
    private void ready(int version) {
        Sheet asked = sheetOf(version);
        if (asked == null || asked.values != null) {
            return;
        }
        long needed = asked.versionsLookedAt();
        for (int v = log.count - 1; v >= 0; v--) {
            Sheet earlier = log.at(v);
            if (earlier != null && earlier.values == null && (needed >> v & 1) != 0) {
                needed |= earlier.versionsLookedAt();
            }
        }
        for (int v = 0; v < log.count; v++) {
            Sheet earlier = log.at(v);
            if (earlier != null && earlier.values == null && (needed >> v & 1) != 0) {
                worker.work(earlier, new Value[earlier.cells.length]);
            }
        }
        worker.work(asked, version == NONE ? workingRoom : new Value[asked.cells.length]);
    }

    /** The value of a cell of a sheet that is ready. */
    private Value seen(int version, int row, int column) {
        Sheet asked = sheetOf(version);
        Value cell = asked != null ? asked.valueAt(row, column) : nothing;
        return cell != null ? cell : nothing;
    }

    /** A value: number is the NUMBER, the TEXT's length, the TRUTH or the ERROR. */
    private static final class Value {
        final byte[] bytes;
        int kind;
        long number;
        /** Whether this is the ERROR of a #REF or SPOT itself, which COUNT does not pass over. */
        boolean absent;

        Value(int room) {
            bytes = new byte[Math.max(room, 0)];
        }

        void set(int newKind, long newNumber) {
            kind = newKind;
            number = newNumber;
            absent = false;
        }

        void setTruth(boolean truth) {
            set(TRUTH, truth ? 1 : 0);
        }

        void setBounded(long newNumber) {
            if (newNumber > GREATEST || newNumber < -GREATEST) {
                set(ERROR, TOO_BIG);
            } else {
                set(NUMBER, newNumber);
            }
        }

        void setBytes(byte[] from, int at, int length) {
            boolean fits = length >= 0 && length <= bytes.length && at >= 0 && at <= from.length - length;
            if (fits) {
                System.arraycopy(from, at, bytes, 0, length);
            }
            kind = fits ? TEXT : ERROR;
            number = fits ? length : TOO_LONG;
            absent = false;
        }

        void take(Value other) {
            if (other.kind == TEXT) {
                setBytes(other.bytes, 0, (int) other.number);
            } else {
                set(other.kind, other.number);
            }
        }

        /** Whether it can stand where such a kind is wanted: nothing can everywhere, as 0. */
        boolean servesAs(int wanted) {
            return kind == wanted || kind == NOTHING;
        }

        /** Below 0, 0 or above 0 as this is less, the same or greater. Both are of one kind, or one is nothing. */
        int compared(Value other) {
            if (kind != TEXT && other.kind != TEXT) {
                return number < other.number ? -1 : number > other.number ? 1 : 0;
            }
            for (int i = 0; i < number && i < other.number; i++) {
                if (i < bytes.length && i < other.bytes.length && bytes[i] != other.bytes[i]) {
                    return bytes[i] - other.bytes[i];
                }
            }
            return (int) (number - other.number);
        }

        boolean compares(Value other) {
            return servesAs(other.kind) || other.kind == NOTHING;
        }

        void becomeText() {
            if (kind == NUMBER) {
                becomeDecimals();
            } else if (kind == TRUTH) {
                becomeWord(number != 0 ? "TRUE" : "FALSE");
            } else if (kind == NOTHING) {
                set(TEXT, 0);
            }
        }

        private void becomeDecimals() {
            long left = Math.abs(number);
            int length = number < 0 ? 2 : 1;
            for (long rest = left / 10; rest > 0; rest /= 10) {
                length++;
            }
            if (length > bytes.length) {
                set(ERROR, TOO_LONG);
                return;
            }
            bytes[0] = '-';
            for (int i = length - 1; i >= (number < 0 ? 1 : 0); i--) {
                bytes[i] = (byte) ('0' + left % 10);
                left /= 10;
            }
            set(TEXT, length);
        }

        private void becomeWord(String word) {
            for (int i = 0; i < word.length() && i < bytes.length; i++) {
                bytes[i] = (byte) word.charAt(i);
            }
            set(TEXT, word.length());
        }
    }

    /** One of the PARTS of a FORMULA. It never changes once its FORMULA is made. */
    private static final class Part {
        final int op;
        final int args;
        final Value literal;
        int row;
        int column;
        int toRow;
        int toColumn;
        int fixed;
        int version = NONE;

        Part(int op, int args, Value literal) {
            this.op = op;
            this.args = args;
            this.literal = literal;
        }

        boolean isPlace() {
            return op == SPOT || op == AREA;
        }

        boolean isLike(Part other) {
            return op == other.op && args == other.args && row == other.row && column == other.column
                    && toRow == other.toRow && toColumn == other.toColumn && fixed == other.fixed
                    && version == other.version && (literal == other.literal || literal != null
                    && other.literal != null && literal.kind == other.literal.kind
                    && literal.compared(other.literal) == 0);
        }

        Part shifted(Sheet its, int down, int right) {
            if (fixed == FIXED_ALL) {
                return this;
            }
            int nextRow = (fixed & FIXED_ROW) != 0 ? row : its.further(ROWS, row, down);
            int nextColumn = (fixed & FIXED_COLUMN) != 0 ? column : its.further(COLUMNS, column, right);
            int nextToRow = (fixed & FIXED_ROW << 2) != 0 ? toRow : its.further(ROWS, toRow, down);
            int nextToColumn = (fixed & FIXED_COLUMN << 2) != 0 ? toColumn : its.further(COLUMNS, toColumn, right);
            if (nextRow == 0 || nextColumn == 0 || nextToRow == 0 || nextToColumn == 0) {
                return new Part(REF, 0, null);
            }
            Part next = new Part(op, 0, null);
            next.row = nextRow;
            next.column = nextColumn;
            next.toRow = nextToRow;
            next.toColumn = nextToColumn;
            next.fixed = fixed;
            next.version = version;
            return next;
        }
    }

    /** What a cell has; nothing is null. A FORMULA has PARTS, each behind those that it takes, and no literal. */
    private static final class Content {
        final int kind;
        final Value literal;
        final Part[] parts;

        Content(int kind, Value literal, Part[] parts) {
            this.kind = kind;
            this.literal = literal;
            this.parts = parts;
        }

        static boolean alike(Content one, Content other) {
            if (one == null || other == null || one == other) {
                return one == other;
            }
            if (one.kind != other.kind || one.parts.length != other.parts.length) {
                return false;
            }
            for (int i = 0; i < one.parts.length; i++) {
                if (!one.parts[i].isLike(other.parts[i])) {
                    return false;
                }
            }
            return one.literal == null || other.literal == null || one.literal.compared(other.literal) == 0;
        }
    }

    /** Rows and columns by their own numbers (from 1 on) and cells. Only its values come after it is filled. */
    private static final class Sheet {
        final int[] rows;
        final int[] columns;
        final Content[] cells;
        /** The values of the FORMULAS; null until they are worked out. */
        Value[] values;

        Sheet(int[] rows, int[] columns) {
            this.rows = rows;
            this.columns = columns;
            this.cells = new Content[rows.length * columns.length];
        }

        int[] line(int axis) {
            return axis == ROWS ? rows : columns;
        }

        boolean has(int row, int column) {
            return row >= 1 && row <= rows.length && column >= 1 && column <= columns.length;
        }

        Content at(int row, int column) {
            return has(row, column) ? cells[(row - 1) * columns.length + column - 1] : null;
        }

        void put(int row, int column, Content content) {
            if (has(row, column)) {
                cells[(row - 1) * columns.length + column - 1] = content;
            }
        }

        int placeOf(int axis, int id) {
            int[] line = axis == ROWS ? rows : columns;
            for (int i = 0; i < line.length; i++) {
                if (line[i] == id) {
                    return i + 1;
                }
            }
            return 0;
        }

        boolean knows(int rowId, int columnId) {
            return placeOf(ROWS, rowId) > 0 && placeOf(COLUMNS, columnId) > 0;
        }

        Content of(int rowId, int columnId) {
            return at(placeOf(ROWS, rowId), placeOf(COLUMNS, columnId));
        }

        /** The row or column so many places further on; 0 if there is none. */
        int further(int axis, int id, int by) {
            int[] line = line(axis);
            int from = placeOf(axis, id);
            int to = from + by;
            return from > 0 && to >= 1 && to <= line.length ? line[to - 1] : 0;
        }

        Sheet twin() {
            Sheet next = new Sheet(rows, columns);
            for (int i = 0; i < cells.length; i++) {
                next.cells[i] = cells[i];
            }
            return next;
        }

        /** A sheet with these rows or columns, and what this one has in them. */
        Sheet shapedAlong(int axis, int[] line) {
            Sheet next = new Sheet(axis == ROWS ? line : rows, axis == ROWS ? columns : line);
            for (int i = 0; i < line.length; i++) {
                int old = placeOf(axis, line[i]);
                for (int k = 1; k <= line(1 - axis).length; k++) {
                    if (axis == ROWS) {
                        next.put(i + 1, k, at(old, k));
                    } else {
                        next.put(k, i + 1, at(k, old));
                    }
                }
            }
            return next;
        }

        boolean isLike(Sheet other) {
            if (rows.length != other.rows.length || columns.length != other.columns.length) {
                return false;
            }
            for (int i = 0; i < rows.length; i++) {
                if (rows[i] != other.rows[i]) {
                    return false;
                }
            }
            for (int i = 0; i < columns.length; i++) {
                if (columns[i] != other.columns[i]) {
                    return false;
                }
            }
            for (int i = 0; i < cells.length; i++) {
                if (!Content.alike(cells[i], other.cells[i])) {
                    return false;
                }
            }
            return true;
        }

        /** The versions behind an @, a bit for each. */
        long versionsLookedAt() {
            long versions = 0;
            for (int i = 0; i < cells.length; i++) {
                for (int k = 0; k < partsOf(cells[i]); k++) {
                    Part part = cells[i].parts[k];
                    versions |= part.version != NONE ? 1L << part.version : 0;
                }
            }
            return versions;
        }

        /** The value of a cell, null for nothing and for a FORMULA that is not worked out. */
        Value valueAt(int row, int column) {
            if (row < 1 || row > rows.length || column < 1 || column > columns.length) {
                return null;
            }
            int cell = (row - 1) * columns.length + column - 1;
            Content content = cells[cell];
            if (content == null || content.kind != FORMULA) {
                return content != null ? content.literal : null;
            }
            return values != null && cell < values.length ? values[cell] : null;
        }
    }

    /** The tape, and what it tells. */
    private static final class Reader {
        private static final int OTHER_ARG = 0;
        private static final int SPOT_ARG = 1;
        private static final int REF_ARG = 2;
        private static final int AREA_ARG = 3;
        private static final int SHAPED_ARGS = 8;

        private final byte[] tape = new byte[TAPE_ROOM];
        private final Part[] parts = new Part[TAPE_ROOM];
        private final Part[] noParts = new Part[0];
        int length;
        int faultKind;
        int faultPlace;
        private int lateKind;
        private int latePlace;
        private int end;
        private int at;
        private int count;
        private Sheet working;
        private Log log;
        private int cornerRow;
        private int cornerColumn;
        private int cornerFixed;
        private int cornerEnd;

        void add(int four) {
            for (int shift = 24; shift >= 0 && length < TAPE_ROOM; shift -= 8) {
                tape[length] = (byte) (four >> shift);
                length++;
            }
        }

        /** The content that the tape tells, null also with a FAULT; the tape is empty then. */
        Content read(Sheet now, Log versions) {
            working = now;
            log = versions;
            faultKind = 0;
            faultPlace = NONE;
            int from = 0;
            while (from < length && tape[from] == ' ') {
                from++;
            }
            end = length;
            while (end > from && tape[end - 1] == ' ') {
                end--;
            }
            Content content = null;
            if (from < end && tape[from] == '=') {
                content = formula(from);
            } else if (from < end) {
                content = plain(from);
            }
            length = 0;
            return content;
        }

        private void fail(int kind, int place) {
            if (faultKind == 0) {
                faultKind = kind;
                faultPlace = place;
            }
        }

        /** A fault that counts only if the text has none of kind 1 or 2; a NAME's comes behind those in its args. */
        private void failLate(int kind, int place) {
            if (lateKind == 0 || place < latePlace) {
                lateKind = kind;
                latePlace = place;
            }
        }

        private Content plain(int from) {
            for (int i = 0; i < length; i++) {
                if (!isPlain(tape[i])) {
                    fail(1, i);
                    return null;
                }
            }
            Value literal = new Value(TEXT_ROOM);
            if (isNumber(tape, from, end)) {
                literal.set(NUMBER, numberOf(from));
            } else if (isTruth(tape, from, end)) {
                literal.setTruth(tape[from] == 'T');
            } else {
                int first = tape[from] == '\'' ? from + 1 : from;
                if (end - first > TEXT_ROOM) {
                    fail(6, first + TEXT_ROOM);
                    return null;
                }
                literal.setBytes(tape, first, end - first);
            }
            return new Content(literal.kind, literal, noParts);
        }

        private long numberOf(int from) {
            long number = 0;
            for (int i = from; i < end; i++) {
                number = isDigit(tape[i]) ? number * 10 + tape[i] - '0' : number;
            }
            return tape[from] == '-' ? -number : number;
        }

        private Content formula(int from) {
            lateKind = 0;
            count = 0;
            at = from + 1;
            expression(COMPARING, 0);
            skipBlanks();
            if (at < end) {
                fail(1, at);
            }
            if (lateKind != 0) {
                fail(lateKind, latePlace);
            }
            if (count > MOST_PARTS) {
                fail(5, length);
            }
            if (faultKind != 0) {
                return null;
            }
            Part[] own = new Part[count];
            for (int i = 0; i < own.length; i++) {
                own[i] = parts[i];
            }
            return new Content(FORMULA, null, own);
        }

        private void skipBlanks() {
            while (at < end && tape[at] == ' ') {
                at++;
            }
        }

        /** The byte at a place; 0, with which no token begins, behind the end. */
        private int byteAt(int place) {
            return place >= 0 && place < end ? tape[place] : 0;
        }

        private int placeOrEnd() {
            return at < end ? at : length;
        }

        private void addPart(int op, int args, Value literal) {
            if (faultKind == 0 && count < parts.length) {
                parts[count] = new Part(op, args, literal);
                count++;
            }
        }

        /** Signs of two that bind at least so much, and what they stand between. */
        private void expression(int least, int open) {
            signed(open);
            boolean compared = false;
            for (int turn = 0; turn < TAPE_ROOM && faultKind == 0; turn++) {
                skipBlanks();
                int op = signOfTwo();
                if (op == 0 || bindsOf(op) < least || compared && bindsOf(op) == COMPARING) {
                    return;
                }
                at += SIGNS.charAt((op - 1) * SIGN_WIDTH + 1) == ' ' ? 1 : SIGN_WIDTH;
                expression(bindsOf(op) + 1, open);
                addPart(op, 2, null);
                compared = compared || bindsOf(op) == COMPARING;
            }
        }

        /** The longest sign of two that stands here, 0 if none does. */
        private int signOfTwo() {
            int found = 0;
            for (int op = EQUAL; op <= REST; op++) {
                int second = SIGNS.charAt((op - 1) * SIGN_WIDTH + 1);
                if (SIGNS.charAt((op - 1) * SIGN_WIDTH) == byteAt(at)) {
                    if (second == byteAt(at + 1) && second != ' ') {
                        return op;
                    }
                    found = second == ' ' ? op : found;
                }
            }
            return found;
        }

        private void signed(int open) {
            skipBlanks();
            if (byteAt(at) != '-') {
                atom(open);
            } else if (open >= MOST_OPEN) {
                fail(2, at);
            } else {
                at++;
                signed(open + 1);
                addPart(NEGATE, 1, null);
            }
        }

        private void atom(int open) {
            int first = byteAt(at);
            if (isDigit(first)) {
                number();
            } else if (first == '"') {
                quoted();
            } else if (first == '#' && isWord(tape, at + 1, Math.min(at + 4, end), "REF")) {
                at += 4;
                addPart(REF, 0, null);
            } else if (first == '(') {
                bracketed(open);
            } else if (isCorner(at)) {
                spot();
            } else if (isLetter(first)) {
                word(open);
            } else {
                fail(1, placeOrEnd());
            }
        }

        private void number() {
            Value literal = new Value(0);
            int from = at;
            literal.set(NUMBER, 0);
            while (at < end && isDigit(tape[at])) {
                if (at - from == NUMBER_DIGITS) {
                    fail(1, at);
                    return;
                }
                literal.number = literal.number * 10 + tape[at] - '0';
                at++;
            }
            addPart(LITERAL, 0, literal);
        }

        private void quoted() {
            int from = at + 1;
            for (int i = from; i < end; i++) {
                if (tape[i] == '"') {
                    Value literal = new Value(i - from);
                    literal.setBytes(tape, from, i - from);
                    at = i + 1;
                    addPart(LITERAL, 0, literal);
                    return;
                }
                if (i - from == TEXT_ROOM) {
                    fail(1, at);
                    return;
                }
                if (!isPlain(tape[i])) {
                    fail(1, i);
                    return;
                }
            }
            fail(1, length);
        }

        private void bracketed(int open) {
            if (open >= MOST_OPEN) {
                fail(2, at);
                return;
            }
            at++;
            expression(COMPARING, open + 1);
            skipBlanks();
            if (byteAt(at) != ')') {
                fail(1, placeOrEnd());
                return;
            }
            at++;
        }

        /** Whether a CORNER stands at a place; what it tells is kept until the next one is looked for. */
        private boolean isCorner(int place) {
            int i = place;
            cornerFixed = 0;
            if (byteAt(i) == '$') {
                cornerFixed = FIXED_COLUMN;
                i++;
            }
            cornerColumn = byteAt(i) - 'A' + 1;
            if (cornerColumn < 1 || cornerColumn > MOST_COLUMNS) {
                return false;
            }
            i++;
            if (byteAt(i) == '$') {
                cornerFixed |= FIXED_ROW;
                i++;
            }
            if (!isDigit(byteAt(i))) {
                return false;
            }
            cornerRow = byteAt(i) - '0';
            i++;
            if (isDigit(byteAt(i))) {
                cornerRow = cornerRow * 10 + byteAt(i) - '0';
                i++;
            }
            cornerEnd = i;
            return !isDigit(byteAt(i)) && !isLetter(byteAt(i));
        }

        private void spot() {
            int from = at;
            Part part = new Part(SPOT, 0, null);
            takeFirstCorner(part);
            if (byteAt(at) == ':') {
                fail(1, at);
                return;
            }
            readVersion(part);
            settle(part, from);
        }

        private void area() {
            int from = at;
            Part part = new Part(AREA, 0, null);
            takeFirstCorner(part);
            at++;
            if (!isCorner(at)) {
                fail(1, at);
                return;
            }
            part.toRow = cornerRow;
            part.toColumn = cornerColumn;
            part.fixed = (part.fixed & (FIXED_ROW | FIXED_COLUMN)) | (cornerFixed << 2);
            at = cornerEnd;
            readVersion(part);
            settle(part, from);
        }

        /** A SPOT is held as a rectangle of one cell. */
        private void takeFirstCorner(Part part) {
            part.row = cornerRow;
            part.column = cornerColumn;
            part.toRow = cornerRow;
            part.toColumn = cornerColumn;
            part.fixed = cornerFixed | (cornerFixed << 2);
            at = cornerEnd;
        }

        private void readVersion(Part part) {
            if (byteAt(at) != '@') {
                return;
            }
            at++;
            if (!isDigit(byteAt(at))) {
                fail(1, at);
                return;
            }
            int from = at;
            int version = 0;
            while (at < end && isDigit(tape[at])) {
                if (at - from == 2) {
                    fail(1, at);
                    return;
                }
                version = version * 10 + tape[at] - '0';
                at++;
            }
            part.version = version;
        }

        /** Puts the rows and columns themselves for their places in the sheet that is meant. */
        private void settle(Part part, int from) {
            Sheet its = part.version == NONE ? working : log.at(part.version);
            if (its == null || !its.has(part.row, part.column) || !its.has(part.toRow, part.toColumn)) {
                failLate(3, from);
            } else {
                part.row = its.rows[part.row - 1];
                part.toRow = its.rows[part.toRow - 1];
                part.column = its.columns[part.column - 1];
                part.toColumn = its.columns[part.toColumn - 1];
            }
            if (faultKind == 0 && count < parts.length) {
                parts[count] = part;
                count++;
            }
        }

        private void word(int open) {
            int from = at;
            while (at < end && isLetter(tape[at])) {
                at++;
            }
            if (isTruth(tape, from, at)) {
                Value literal = new Value(0);
                literal.setTruth(tape[from] == 'T');
                addPart(LITERAL, 0, literal);
                return;
            }
            int op = nameOf(from, at);
            if (op == 0) {
                fail(1, from);
                return;
            }
            skipBlanks();
            if (byteAt(at) != '(') {
                fail(1, placeOrEnd());
            } else if (open >= MOST_OPEN) {
                fail(2, at);
            } else {
                at++;
                args(op, from, open + 1);
            }
        }

        private int nameOf(int from, int to) {
            for (int op = IF; op <= COUNTIF; op++) {
                int start = (op - IF) * NAME_WIDTH;
                int i = 0;
                while (i < NAME_WIDTH && from + i < to && NAMES.charAt(start + i) == tape[from + i]) {
                    i++;
                }
                if (from + i == to && NAMES.charAt(start + i) == ' ') {
                    return op;
                }
            }
            return 0;
        }

        private void args(int op, int from, int open) {
            int shapes = 0;
            int args = 0;
            boolean more = true;
            for (int turn = 0; turn < TAPE_ROOM && more; turn++) {
                int before = count;
                skipBlanks();
                if (isCorner(at) && byteAt(cornerEnd) == ':') {
                    area();
                } else {
                    expression(COMPARING, open);
                }
                shapes |= args < SHAPED_ARGS ? shapeFrom(before) << 2 * args : 0;
                args++;
                skipBlanks();
                more = byteAt(at) == ',';
                if (!more && byteAt(at) != ')') {
                    fail(1, placeOrEnd());
                }
                if (faultKind != 0) {
                    return;
                }
                at++;
            }
            if (!fits(op, args, shapes)) {
                failLate(4, from);
            }
            addPart(op, args, null);
        }

        private int shapeFrom(int before) {
            if (count != before + 1) {
                return OTHER_ARG;
            }
            switch (parts[before].op) {
                case SPOT:
                    return SPOT_ARG;
                case REF:
                    return REF_ARG;
                case AREA:
                    return AREA_ARG;
                default:
                    return OTHER_ARG;
            }
        }

        private static boolean fits(int op, int args, int shapes) {
            if (args < LEAST_ARGS[op - IF] || args > MOST_ARGS[op - IF]) {
                return false;
            }
            for (int k = 0; k < args; k++) {
                if (!stands(op, k, shapes >> 2 * k & 3)) {
                    return false;
                }
            }
            return true;
        }

        private static boolean stands(int op, int place, int shape) {
            switch (op) {
                case AND:
                case OR:
                case SUM:
                case MIN:
                case MAX:
                case COUNT:
                    return true;
                case ROW:
                case COL:
                    return shape == SPOT_ARG || shape == REF_ARG;
                case INDEX:
                case COUNTIF:
                    return place == 0 ? shape == AREA_ARG || shape == REF_ARG : shape != AREA_ARG;
                case MATCH:
                    return place == 1 ? shape == AREA_ARG || shape == REF_ARG : shape != AREA_ARG;
                default:
                    return shape != AREA_ARG;
            }
        }
    }

    /** Contents as they are WRITTEN. */
    private static final class Writer {
        /** Above what 60 PARTS can take: each at most a TEXT in " or an AREA, with ( ) and a sign. */
        private static final int ROOM = 2400;

        private final byte[] out = new byte[ROOM];
        private final int[] starts = new int[MOST_PARTS];
        private final Value decimals = new Value(TEXT_ROOM);
        private int length;
        private Part[] parts;
        private Sheet asked;
        private Log log;

        int letterAt(int i) {
            return i >= 0 && i < length ? out[i] : NONE;
        }

        void write(Content content, Sheet sheet, Log versions) {
            length = 0;
            asked = sheet;
            log = versions;
            if (content == null) {
                return;
            }
            if (content.kind == FORMULA) {
                parts = content.parts;
                findStarts();
                put('=');
                part(parts.length - 1, 0);
                return;
            }
            if (content.kind == TEXT && changesUnquoted(content.literal)) {
                put('\'');
            }
            putValue(content.literal);
        }

        /** Whether this TEXT, entered as it is, would not become itself. */
        private static boolean changesUnquoted(Value text) {
            int end = (int) text.number;
            if (end < 1 || end > text.bytes.length) {
                return true;
            }
            int first = text.bytes[0];
            return first == ' ' || first == '=' || first == '\'' || text.bytes[end - 1] == ' '
                    || isNumber(text.bytes, 0, end) || isTruth(text.bytes, 0, end);
        }

        private void put(int b) {
            if (length < ROOM) {
                out[length] = (byte) b;
                length++;
            }
        }

        private void putValue(Value literal) {
            decimals.take(literal);
            decimals.becomeText();
            for (int i = 0; i < decimals.number && i < TEXT_ROOM; i++) {
                put(decimals.bytes[i]);
            }
        }

        /** Places and versions have one or two digits. */
        private void putNumber(int number) {
            if (number >= 10) {
                put('0' + number / 10);
            }
            put('0' + number % 10);
        }

        /** For each of the PARTS, where the first one stands of all that it takes. */
        private void findStarts() {
            for (int i = 0; i < parts.length && i < MOST_PARTS; i++) {
                int start = i;
                for (int k = 0; k < parts[i].args && start > 0; k++) {
                    start = starts[start - 1];
                }
                starts[i] = start;
            }
        }

        private void part(int i, int depth) {
            if (i < 0 || i >= parts.length || i >= MOST_PARTS || depth > MOST_PARTS) {
                return;
            }
            Part part = parts[i];
            if (part.op == LITERAL) {
                literal(part.literal);
            } else if (part.op == REF) {
                putReference();
            } else if (part.isPlace()) {
                place(part);
            } else if (part.op == NEGATE) {
                put('-');
                under(i - 1, SIGNED, depth);
            } else if (part.op <= REST) {
                int binds = bindsOf(part.op);
                under(starts[i - 1] - 1, binds == COMPARING ? binds + 1 : binds, depth);
                putWord(SIGNS, (part.op - 1) * SIGN_WIDTH, SIGN_WIDTH);
                under(i - 1, binds + 1, depth);
            } else {
                putWord(NAMES, (part.op - IF) * NAME_WIDTH, NAME_WIDTH);
                put('(');
                args(i, depth);
                put(')');
            }
        }

        /** What stands under a sign, in ( ) if it binds less than it must. */
        private void under(int i, int least, int depth) {
            boolean bracketed = i >= 0 && i < parts.length && bindsOf(parts[i].op) < least;
            if (bracketed) {
                put('(');
            }
            part(i, depth + 1);
            if (bracketed) {
                put(')');
            }
        }

        private void args(int i, int depth) {
            int count = parts[i].args;
            for (int k = 0; k < count; k++) {
                int last = i - 1;
                for (int behind = count - 1; behind > k && last >= 0; behind--) {
                    last = starts[last] - 1;
                }
                if (k > 0) {
                    put(',');
                }
                part(last, depth + 1);
            }
        }

        private void putWord(String words, int from, int width) {
            for (int i = from; i < from + width && i < words.length(); i++) {
                if (words.charAt(i) != ' ') {
                    put(words.charAt(i));
                }
            }
        }

        private void literal(Value literal) {
            if (literal == null) {
                return;
            }
            if (literal.kind == TEXT) {
                put('"');
            }
            putValue(literal);
            if (literal.kind == TEXT) {
                put('"');
            }
        }

        private void putReference() {
            putWord("#REF", 0, 4);
        }

        private void place(Part part) {
            Sheet its = part.version == NONE ? asked : log.at(part.version);
            if (its == null || !its.knows(part.row, part.column) || !its.knows(part.toRow, part.toColumn)) {
                putReference();
                return;
            }
            corner(its.placeOf(ROWS, part.row), its.placeOf(COLUMNS, part.column), part.fixed);
            if (part.op == AREA) {
                put(':');
                corner(its.placeOf(ROWS, part.toRow), its.placeOf(COLUMNS, part.toColumn), part.fixed >> 2);
            }
            if (part.version != NONE) {
                put('@');
                putNumber(part.version);
            }
        }

        private void corner(int row, int column, int fixed) {
            if ((fixed & FIXED_COLUMN) != 0) {
                put('$');
            }
            put('A' + column - 1);
            if ((fixed & FIXED_ROW) != 0) {
                put('$');
            }
            putNumber(row);
        }
    }

    /** Works out the FORMULAS of a sheet, when those of the versions that it looks at are worked out. */
    private static final class Worker {
        /** So many longs have a bit for each cell. */
        private static final int WORDS = 5;

        private final Sheet[] versions;
        private final Value[] stack = new Value[MOST_PARTS];
        private final Value nothing = new Value(0);
        private final long[] leads = new long[MOST_CELLS * WORDS];
        private final long[] reached = new long[MOST_CELLS * WORDS];
        private final long[] open = new long[WORDS];
        private final int[] waiting = new int[MOST_CELLS];
        private final int[] order = new int[MOST_CELLS];
        private Sheet sheet;
        private Part[] parts;
        private int top;
        private Sheet looked;
        private int upper;
        private int lower;
        private int left;
        private int right;
        private int error;
        private int tallied;
        private long sum;
        private long least;
        private long greatest;

        Worker(Sheet[] versions) {
            this.versions = versions;
            for (int i = 0; i < stack.length; i++) {
                stack[i] = new Value(TEXT_ROOM);
            }
        }

        void work(Sheet asked, Value[] room) {
            sheet = asked;
            sheet.values = room;
            clear(open, 0);
            int count = Math.min(Math.min(sheet.cells.length, room.length), MOST_CELLS);
            for (int cell = 0; cell < count; cell++) {
                if (isFormula(sheet.cells[cell])) {
                    room[cell] = room[cell] != null ? room[cell] : new Value(TEXT_ROOM);
                    open[cell / 64] |= 1L << cell % 64;
                    findLeads(cell);
                }
            }
            settleCircles(count);
            int ordered = putInOrder(count);
            for (int i = 0; i < ordered; i++) {
                workCell(order[i]);
            }
        }

        private static void clear(long[] bits, int from) {
            for (int w = from; w < from + WORDS && w < bits.length; w++) {
                bits[w] = 0;
            }
        }

        private boolean isOpen(int cell) {
            return (open[cell / 64] >> cell % 64 & 1) != 0;
        }

        private void close(int cell) {
            open[cell / 64] &= ~(1L << cell % 64);
        }

        /** Whether ROW or COL takes this of the PARTS, which then is not worked out. */
        private boolean standsAlone(int i) {
            return i + 1 < parts.length && (parts[i + 1].op == ROW || parts[i + 1].op == COL);
        }

        private void findLeads(int cell) {
            clear(leads, cell * WORDS);
            parts = sheet.cells[cell].parts;
            for (int i = 0; i < parts.length; i++) {
                boolean leading = parts[i].isPlace() && parts[i].version == NONE && !standsAlone(i);
                if (!leading || !finds(parts[i])) {
                    continue;
                }
                for (int r = upper; r <= lower; r++) {
                    for (int c = left; c <= right; c++) {
                        int met = (r - 1) * sheet.columns.length + c - 1;
                        leads[cell * WORDS + met / 64] |= 1L << met % 64;
                    }
                }
            }
        }

        /** A cell that is reached from itself, over any of those that are open, is in a CIRCLE. */
        private void settleCircles(int count) {
            System.arraycopy(leads, 0, reached, 0, count * WORDS);
            for (int over = 0; over < count; over++) {
                for (int cell = 0; cell < count && isOpen(over); cell++) {
                    if (isOpen(cell) && reaches(cell, over)) {
                        for (int w = 0; w < WORDS; w++) {
                            reached[cell * WORDS + w] |= reached[over * WORDS + w];
                        }
                    }
                }
            }
            for (int cell = 0; cell < count; cell++) {
                if (isOpen(cell) && reaches(cell, cell)) {
                    sheet.values[cell].set(ERROR, IN_CIRCLE);
                    close(cell);
                }
            }
        }

        private boolean reaches(int cell, int other) {
            return (reached[cell * WORDS + other / 64] >> other % 64 & 1) != 0;
        }

        /** The open cells, each behind those that it leads to; a way without circles is not longer than all cells. */
        private int putInOrder(int count) {
            int ordered = 0;
            for (int cell = 0; cell < count; cell++) {
                int depth = 0;
                if (isOpen(cell)) {
                    waiting[0] = cell;
                    depth = 1;
                }
                for (int turn = 0; turn < 2 * MOST_CELLS && depth > 0 && ordered < MOST_CELLS; turn++) {
                    int next = firstOpenOf(waiting[depth - 1]);
                    if (next != NONE && depth < MOST_CELLS) {
                        waiting[depth] = next;
                        depth++;
                    } else {
                        depth--;
                        order[ordered] = waiting[depth];
                        ordered++;
                        close(waiting[depth]);
                    }
                }
            }
            return ordered;
        }

        private int firstOpenOf(int cell) {
            for (int w = 0; w < WORDS; w++) {
                long met = leads[cell * WORDS + w] & open[w];
                if (met != 0) {
                    return w * 64 + Long.numberOfTrailingZeros(met);
                }
            }
            return NONE;
        }

        private void workCell(int cell) {
            parts = sheet.cells[cell].parts;
            top = 0;
            for (int i = 0; i < parts.length; i++) {
                Part part = parts[i];
                if (part.args == 0) {
                    push(part, i);
                } else if (part.args > top) {
                    return;
                } else if (part.op == NEGATE) {
                    negate(stack[top - 1]);
                } else if (part.op <= REST) {
                    top--;
                    sign(part.op, stack[top - 1], stack[top]);
                } else {
                    top = top - part.args + 1;
                    if (part.op >= AND && part.op <= COUNT) {
                        gather(part.op, top - 1, part.args);
                    } else if (takesPlace(part.op)) {
                        callOfPlace(part.op, top - 1, part.args);
                    } else {
                        call(part.op, top - 1, part.args);
                    }
                }
            }
            Value result = stack[0];
            if (result.kind == NOTHING) {
                result.set(NUMBER, 0);
            }
            sheet.values[cell].take(result);
        }

        private void push(Part part, int i) {
            if (top >= stack.length) {
                return;
            }
            Value slot = stack[top];
            top++;
            if (part.op == LITERAL && part.literal != null) {
                slot.take(part.literal);
            } else if (part.op == AREA || part.op == SPOT && standsAlone(i)) {
                slot.set(PLACE, i);
            } else if (part.op == SPOT && finds(part)) {
                slot.take(met(upper, left));
            } else {
                slot.set(ERROR, NO_REF);
                slot.absent = true;
            }
        }

        /** Whether the rows and columns of a SPOT or AREA are there; where they lie is kept until the next one. */
        private boolean finds(Part part) {
            boolean elsewhere = part.version >= 0 && part.version < versions.length;
            looked = elsewhere ? versions[part.version] : sheet;
            if (looked == null) {
                return false;
            }
            int row = looked.placeOf(ROWS, part.row);
            int toRow = looked.placeOf(ROWS, part.toRow);
            int column = looked.placeOf(COLUMNS, part.column);
            int toColumn = looked.placeOf(COLUMNS, part.toColumn);
            upper = Math.min(row, toRow);
            lower = Math.max(row, toRow);
            left = Math.min(column, toColumn);
            right = Math.max(column, toColumn);
            return upper > 0 && left > 0;
        }

        private boolean findsPlace(Value slot) {
            return slot.kind == PLACE && slot.number >= 0 && slot.number < parts.length
                    && finds(parts[(int) slot.number]);
        }

        private Value met(int row, int column) {
            Value cell = looked.valueAt(row, column);
            return cell != null ? cell : nothing;
        }

        private void negate(Value slot) {
            if (slot.kind == ERROR) {
                slot.set(ERROR, slot.number);
            } else if (slot.servesAs(NUMBER)) {
                slot.set(NUMBER, -slot.number);
            } else {
                slot.set(ERROR, WRONG_TYPE);
            }
        }

        private void sign(int op, Value one, Value other) {
            if (one.kind == ERROR) {
                one.set(ERROR, one.number);
            } else if (other.kind == ERROR) {
                one.set(ERROR, other.number);
            } else if (op <= AT_LEAST) {
                compare(op, one, other);
            } else if (op == JOIN) {
                one.becomeText();
                other.becomeText();
                join(one, other);
            } else if (!one.servesAs(NUMBER) || !other.servesAs(NUMBER)) {
                one.set(ERROR, WRONG_TYPE);
            } else {
                reckon(op, one, other.number);
            }
        }

        private void compare(int op, Value one, Value other) {
            if (!one.compares(other)) {
                if (op == EQUAL || op == UNLIKE) {
                    one.setTruth(op == UNLIKE);
                } else {
                    one.set(ERROR, WRONG_TYPE);
                }
                return;
            }
            int order = one.compared(other);
            switch (op) {
                case EQUAL:
                    one.setTruth(order == 0);
                    break;
                case UNLIKE:
                    one.setTruth(order != 0);
                    break;
                case LESS:
                    one.setTruth(order < 0);
                    break;
                case AT_MOST:
                    one.setTruth(order <= 0);
                    break;
                case MORE:
                    one.setTruth(order > 0);
                    break;
                default:
                    one.setTruth(order >= 0);
                    break;
            }
        }

        private void join(Value one, Value other) {
            int length = (int) one.number;
            int more = (int) other.number;
            if (length + more > TEXT_ROOM) {
                one.set(ERROR, TOO_LONG);
                return;
            }
            for (int i = 0; i < more; i++) {
                one.bytes[length + i] = other.bytes[i];
            }
            one.set(TEXT, length + more);
        }

        private void reckon(int op, Value one, long other) {
            long number = one.number;
            switch (op) {
                case PLUS:
                    one.setBounded(number + other);
                    break;
                case MINUS:
                    one.setBounded(number - other);
                    break;
                case TIMES:
                    if (number != 0 && Math.abs(other) > GREATEST / Math.abs(number)) {
                        one.set(ERROR, TOO_BIG);
                    } else {
                        one.set(NUMBER, number * other);
                    }
                    break;
                default:
                    if (other == 0) {
                        one.set(ERROR, NO_DIVISOR);
                    } else {
                        one.set(NUMBER, op == OVER ? number / other : number % other);
                    }
                    break;
            }
        }

        private static boolean takesPlace(int op) {
            return op == ROW || op == COL || op == INDEX || op == MATCH || op == COUNTIF;
        }

        private void call(int op, int base, int args) {
            Value first = stack[base];
            if (op == IF) {
                takeOne(base, args);
            } else if (op == ISERR) {
                first.setTruth(first.kind == ERROR);
            } else if (op == LEFT || op == RIGHT) {
                first.becomeText();
                cut(op, first, stack[base + args - 1]);
            } else if (op == LEN) {
                first.becomeText();
                change(op, first);
            } else {
                change(op, first);
            }
        }

        /** The part that IF does not want has no effect, so that it may have been worked out all the same. */
        private void takeOne(int base, int args) {
            Value first = stack[base];
            if (first.kind == ERROR) {
                first.set(ERROR, first.number);
            } else if (!first.servesAs(TRUTH) || args < 3) {
                first.set(ERROR, WRONG_TYPE);
            } else {
                first.take(stack[first.number != 0 ? base + 1 : base + 2]);
            }
        }

        private void change(int op, Value slot) {
            if (slot.kind == ERROR) {
                slot.set(ERROR, slot.number);
            } else if (op == LEN) {
                slot.set(NUMBER, slot.number);
            } else if (!slot.servesAs(op == NOT ? TRUTH : NUMBER)) {
                slot.set(ERROR, WRONG_TYPE);
            } else if (op == NOT) {
                slot.setTruth(slot.number == 0);
            } else {
                slot.set(NUMBER, Math.abs(slot.number));
            }
        }

        private void cut(int op, Value text, Value wanted) {
            if (text.kind == ERROR || wanted.kind == ERROR) {
                text.set(ERROR, text.kind == ERROR ? text.number : wanted.number);
                return;
            }
            if (!wanted.servesAs(NUMBER) || wanted.number < 0) {
                text.set(ERROR, WRONG_TYPE);
                return;
            }
            int length = (int) text.number;
            int kept = (int) Math.min(wanted.number, length);
            int from = op == LEFT ? 0 : length - kept;
            for (int i = 0; i < kept; i++) {
                text.bytes[i] = text.bytes[from + i];
            }
            text.set(TEXT, kept);
        }

        /** ROW, COL, INDEX, MATCH and COUNTIF, in which a #REF is a place that is not there. */
        private void callOfPlace(int op, int base, int args) {
            Value slot = stack[base];
            Value last = stack[base + args - 1];
            Value place = op == MATCH ? last : slot;
            Value wanted = op == MATCH ? slot : last;
            if (wanted.kind == ERROR) {
                slot.set(ERROR, wanted.number);
            } else if (!findsPlace(place)) {
                slot.set(ERROR, NO_REF);
            } else if (op == INDEX) {
                tellNth(slot, wanted);
            } else if (op == ROW || op == COL) {
                slot.set(NUMBER, op == ROW ? upper : left);
            } else {
                search(op, slot, wanted);
            }
        }

        private void tellNth(Value slot, Value wanted) {
            int width = right - left + 1;
            if (!wanted.servesAs(NUMBER)) {
                slot.set(ERROR, WRONG_TYPE);
            } else if (wanted.number < 1 || wanted.number > (lower - upper + 1) * width || width < 1) {
                slot.set(ERROR, NO_REF);
            } else {
                int past = (int) wanted.number - 1;
                slot.take(met(upper + past / width, left + past % width));
            }
        }

        /** MATCH and COUNTIF: goes over the place that was found for what is the same as what is wanted. */
        private void search(int op, Value slot, Value wanted) {
            int passed = 0;
            int same = 0;
            for (int r = upper; r <= lower; r++) {
                for (int c = left; c <= right; c++) {
                    Value cell = met(r, c);
                    passed++;
                    if (cell.kind == ERROR || !cell.compares(wanted) || cell.compared(wanted) != 0) {
                        continue;
                    }
                    if (op == MATCH) {
                        slot.set(NUMBER, passed);
                        return;
                    }
                    same++;
                }
            }
            slot.set(op == MATCH ? ERROR : NUMBER, op == MATCH ? NOT_FOUND : same);
        }

        private void gather(int op, int base, int args) {
            error = 0;
            tallied = 0;
            sum = 0;
            least = GREATEST;
            greatest = -GREATEST;
            for (int k = base; k < base + args && op != COUNT && error == 0; k++) {
                error = stack[k].kind == ERROR ? (int) stack[k].number : 0;
            }
            for (int k = base; k < base + args && error == 0; k++) {
                if (stack[k].kind != PLACE) {
                    tallyArg(op, stack[k]);
                } else if (findsPlace(stack[k])) {
                    tallyCells(op);
                } else {
                    error = NO_REF;
                }
            }
            tell(op, stack[base]);
        }

        private void tallyArg(int op, Value arg) {
            if (op == COUNT) {
                error = arg.absent ? NO_REF : 0;
                tallied += arg.kind == NUMBER ? 1 : 0;
            } else if (arg.servesAs(op == AND || op == OR ? TRUTH : NUMBER)) {
                tally(arg.number);
            } else {
                error = WRONG_TYPE;
            }
        }

        private void tallyCells(int op) {
            int wanted = op == AND || op == OR ? TRUTH : NUMBER;
            for (int r = upper; r <= lower; r++) {
                for (int c = left; c <= right; c++) {
                    Value cell = met(r, c);
                    if (cell.kind == ERROR && op != COUNT) {
                        error = (int) cell.number;
                        return;
                    }
                    if (cell.kind == wanted) {
                        tally(cell.number);
                    }
                }
            }
        }

        private void tally(long number) {
            tallied++;
            sum += number;
            least = Math.min(least, number);
            greatest = Math.max(greatest, number);
        }

        private void tell(int op, Value slot) {
            if (error != 0) {
                slot.set(ERROR, error);
            } else if (op == AND) {
                slot.setTruth(tallied == 0 || least != 0);
            } else if (op == OR) {
                slot.setTruth(tallied > 0 && greatest != 0);
            } else if (op == SUM) {
                slot.setBounded(sum);
            } else if (op == COUNT) {
                slot.set(NUMBER, tallied);
            } else if (tallied == 0) {
                slot.set(ERROR, NOT_FOUND);
            } else {
                slot.set(NUMBER, op == MIN ? least : greatest);
            }
        }
    }

    /** The versions. */
    private static final class Log {
        final Sheet[] sheets = new Sheet[MOST_VERSIONS];
        final int[] parents = new int[MOST_VERSIONS];
        final int[] others = new int[MOST_VERSIONS];
        /** The ANCESTORS of each version, a bit for each. */
        private final long[] ancestors = new long[MOST_VERSIONS];
        int count;

        Sheet at(int version) {
            return version >= 0 && version < count ? sheets[version] : null;
        }

        private long ancestorsOf(int version) {
            return version >= 0 && version < count ? ancestors[version] : 0;
        }

        int add(Sheet sheet, int parent, int other) {
            if (count >= MOST_VERSIONS) {
                return NONE;
            }
            sheets[count] = sheet;
            parents[count] = parent;
            others[count] = other;
            ancestors[count] = 1L << count | ancestorsOf(parent) | ancestorsOf(other);
            count++;
            return count - 1;
        }

        /** The BASE of two versions: the highest bit that both have. */
        int commonOf(int one, int other) {
            return 63 - Long.numberOfLeadingZeros(ancestorsOf(one) & ancestorsOf(other));
        }

        boolean holds(int version, int rowId, int columnId, Content content) {
            Sheet sheet = at(version);
            return sheet != null && sheet.knows(rowId, columnId)
                    && Content.alike(sheet.of(rowId, columnId), content);
        }
    }

    /** The working sheets that undo() and redo() bring back. */
    private static final class Steps {
        private final Sheet[] done = new Sheet[MOST_STEPS];
        private final Sheet[] undone = new Sheet[MOST_STEPS];
        int doneCount;
        int undoneCount;

        void forget() {
            doneCount = 0;
            undoneCount = 0;
        }

        void add(Sheet before) {
            undoneCount = 0;
            if (doneCount >= MOST_STEPS) {
                for (int i = 1; i < MOST_STEPS; i++) {
                    done[i - 1] = done[i];
                }
                doneCount = MOST_STEPS - 1;
            }
            done[doneCount] = before;
            doneCount++;
        }

        Sheet back(Sheet now) {
            if (doneCount < 1 || undoneCount >= MOST_STEPS) {
                return now;
            }
            doneCount--;
            undone[undoneCount] = now;
            undoneCount++;
            return done[doneCount];
        }

        Sheet again(Sheet now) {
            if (undoneCount < 1 || doneCount >= MOST_STEPS) {
                return now;
            }
            undoneCount--;
            done[doneCount] = now;
            doneCount++;
            return undone[undoneCount];
        }
    }

    /** A CONFLICT: of kind 1 without a column, of kind 2 without a row (0). */
    private static final class Conflict {
        final int kind;
        final int row;
        final int column;
        /** Of kind 1 and 2: whether OURS has the row or column. */
        final boolean isOurs;
        final Content our;
        final Content their;
        boolean settled;

        Conflict(int kind, int row, int column, boolean isOurs, Content our, Content their) {
            this.kind = kind;
            this.row = row;
            this.column = column;
            this.isOurs = isOurs;
            this.our = our;
            this.their = their;
        }
    }

    /** Puts two sheets together three ways, and keeps the CONFLICTS of the latest time. */
    private static final class Merger {
        private final Conflict[] conflicts = new Conflict[MOST_ROWS + MOST_COLUMNS + MOST_CELLS];
        private final int[] line = new int[2 * MOST_ROWS];
        int count;
        private Sheet ours;
        private Sheet theirs;
        private Sheet basic;

        Conflict at(int i) {
            return i >= 0 && i < count ? conflicts[i] : null;
        }

        int unsettled() {
            int open = 0;
            for (int i = 0; i < count; i++) {
                open += conflicts[i].settled ? 0 : 1;
            }
            return open;
        }

        /** The sheet of both; null, with all as it was, if that would have too many or no rows or columns. */
        Sheet join(Sheet our, Sheet their, Sheet common) {
            if (our == null || their == null || common == null) {
                return null;
            }
            ours = our;
            theirs = their;
            basic = common;
            int[] rows = joinedLine(ROWS);
            int[] columns = joinedLine(COLUMNS);
            if (rows.length < 1 || rows.length > MOST_ROWS || columns.length < 1 || columns.length > MOST_COLUMNS) {
                return null;
            }
            count = 0;
            noteLine(ROWS, rows);
            noteLine(COLUMNS, columns);
            Sheet joined = new Sheet(rows, columns);
            for (int r = 0; r < rows.length; r++) {
                for (int c = 0; c < columns.length; c++) {
                    joined.put(r + 1, c + 1, joinedCell(rows[r], columns[c]));
                }
            }
            return joined;
        }

        private void note(Conflict conflict) {
            if (count < conflicts.length) {
                conflicts[count] = conflict;
                count++;
            }
        }

        private int[] joinedLine(int axis) {
            int[] our = ours.line(axis);
            int[] their = theirs.line(axis);
            boolean asTheirs = inSameOrder(our, basic.line(axis), their);
            int[] leading = asTheirs ? their : our;
            int[] other = asTheirs ? our : their;
            int length = 0;
            for (int i = 0; i < leading.length; i++) {
                if (stays(axis, leading[i]) && length < line.length) {
                    line[length] = leading[i];
                    length++;
                }
            }
            int ahead = 0;
            for (int i = 0; i < other.length; i++) {
                int place = placeIn(line, length, other[i]);
                if (place > 0) {
                    ahead = place;
                } else if (stays(axis, other[i]) && length < line.length) {
                    for (int k = length; k > ahead; k--) {
                        line[k] = line[k - 1];
                    }
                    line[ahead] = other[i];
                    length++;
                    ahead++;
                }
            }
            return Arrays.copyOf(line, length);
        }

        private boolean stays(int axis, int id) {
            boolean inOurs = ours.placeOf(axis, id) > 0;
            boolean inTheirs = theirs.placeOf(axis, id) > 0;
            return inOurs && inTheirs || basic.placeOf(axis, id) == 0 || isChanged(inOurs ? ours : theirs, axis, id);
        }

        private boolean isChanged(Sheet sheet, int axis, int id) {
            int[] across = sheet.line(1 - axis);
            for (int i = 0; i < across.length; i++) {
                int row = axis == ROWS ? id : across[i];
                int column = axis == ROWS ? across[i] : id;
                // What the BASE has not is nothing there, so that one comparison serves both cases.
                if (!Content.alike(sheet.of(row, column), basic.of(row, column))) {
                    return true;
                }
            }
            return false;
        }

        private void noteLine(int axis, int[] joined) {
            for (int i = 0; i < joined.length; i++) {
                boolean inOurs = ours.placeOf(axis, joined[i]) > 0;
                boolean inTheirs = theirs.placeOf(axis, joined[i]) > 0;
                if (inOurs != inTheirs && basic.placeOf(axis, joined[i]) > 0) {
                    int row = axis == ROWS ? joined[i] : 0;
                    int column = axis == ROWS ? 0 : joined[i];
                    note(new Conflict(axis == ROWS ? 1 : 2, row, column, inOurs, null, null));
                }
            }
        }

        private Content joinedCell(int row, int column) {
            Content our = ours.of(row, column);
            Content their = theirs.of(row, column);
            if (!theirs.knows(row, column)) {
                return our;
            }
            if (!ours.knows(row, column)) {
                return their;
            }
            Content old = basic.of(row, column);
            if (Content.alike(their, old) || Content.alike(our, their)) {
                return our;
            }
            if (!Content.alike(our, old)) {
                note(new Conflict(3, row, column, true, our, their));
                return our;
            }
            return their;
        }
    }
}
