import java.util.function.LongSupplier;

/** Each sentence that names a boundary case of acts on the working sheet, of undo and redo, and of calls that throw. */
public final class EdgesOfActsTest {
    private static final int MOST = Integer.MAX_VALUE;
    private static final int LEAST = Integer.MIN_VALUE;
    private static final String NO_INDEX = "throws.IndexOutOfBoundsException";
    private static final String NO_ARGUMENT = "throws.IllegalArgumentException";
    private static final String NO_STATE = "throws.IllegalStateException";
    private static final String NO_ELEMENT = "throws.NoSuchElementException";
    private static final String NO_SUPPORT = "throws.UnsupportedOperationException";

    public static void main(String[] args) {
        shape();
        otherRows();
        erase();
        insert();
        remove();
        move();
        copy();
        copiedBlocks();
        copiedFormulas();
        copiedWithDollars();
        copyFull();
        sort();
        sortedKinds();
        steps();
        undo();
        redo();
        forgotten();
        throwsChangeNothing();
        firstOfSeveral();
        Bench.finish();
    }

    private static void due(String call, Object got, Object want) {
        Bench.due(call, got, want);
    }

    private static void shape() {
        Said.term(1, "A SHEET has 1 to 32 ROWS and 1 to 10 COLUMNS, at places 1, 2, .. (columns also as letters A, B, .. J).");
        Bench b = new Bench();
        for (int n = 9; n <= 32; n++) {
            due("insert(0, " + n + ")", b.x.insert(0, n), n);
        }
        for (int n = 7; n <= 10; n++) {
            due("insert(1, " + n + ")", b.x.insert(1, n), n);
        }
        due("insert of a 33rd row", Bench.of(() -> b.x.insert(0, 33)), NO_STATE);
        due("insert of an 11th column", Bench.of(() -> b.x.insert(1, 11)), NO_STATE);
        due("sheet(-1, 0) sheet(-1, 1)", b.x.sheet(-1, 0) + " " + b.x.sheet(-1, 1), "32 10");
        b.in("J32", "last").in("A1", "=J32").in("J1", "=SUM(A1:J32)");
        due("A1 J1", b.shows("A1") + b.writes("A1") + b.shows("J1"), "'last=J32CIRCLE");
        b.in("I31", "=J32").in("J32", "=ROW(J32)*100+COL(J32)");
        due("a FORMULA in the last cell", b.shows("J32") + " " + b.shows("I31"), "3210 3210");
        b.in("J32", "=I31");
        due("a ring over the last cell", b.shows("J32") + " " + b.shows("I31"), "CIRCLE CIRCLE");
        b.in("J32", "last");
        due("enter(33, 1)", Bench.of(() -> b.x.enter(33, 1)), NO_INDEX);
        due("enter(32, 11)", Bench.of(() -> b.x.enter(32, 11)), NO_INDEX);
        for (int n = 31; n >= 1; n--) {
            due("remove(0, 1)", b.x.remove(0, 1), n);
        }
        for (int n = 9; n >= 1; n--) {
            due("remove(1, 1)", b.x.remove(1, 1), n);
        }
        due("A1, the last of all", b.shows("A1"), "'last");
        due("remove of the only row", Bench.of(() -> b.x.remove(0, 1)), NO_STATE);
        due("remove of the only column", Bench.of(() -> b.x.remove(1, 1)), NO_STATE);
    }

    private static void otherRows() {
        Said.term(1, "A row that is put in is another one than all that ever were; it stays the same one wherever it is moved to, and in all versions that have it; columns likewise.");
        for (int axis = 0; axis <= 1; axis++) {
            int along = axis;
            Bench b = new Bench().in("A1", "=B2").in("B2", "x");
            b.x.remove(along, 2);
            b.x.insert(along, 2);
            due("another one at the old place", b.writes("A1"), "=#REF");
            b.x.undo();
            b.x.undo();
            due("the same one again", b.writes("A1"), "=B2");
            b.x.commit();
            b.x.move(along, 2, 5);
            due("moved", b.writes("A1"), axis == 0 ? "=B5" : "=E2");
            due("the same one in the version", b.x.diff(1, -1) + " " + b.x.difference(0, 0), "1 " + (5 + along));
            b.x.undo();
            b.x.insert(along, 1);
            b.x.commit();
            b.x.undo();
            b.x.insert(along, 1);
            due("another one than the one that was undone", b.x.diff(2, -1), 2);
            b.x.undo();
            b.x.insert(along, 3);
            b.x.undo();
            b.x.redo();
            b.x.commit();
            due("done again it is the same one", b.x.diff(3, -1), 0);
            b.x.drop();
            b.x.insert(along, 3);
            due("another one than all that were dropped", b.x.diff(3, -1), 1);
        }
    }

    private static void erase() {
        Said.promise(6, "all cells of a block (from one cell to another one, right of and below it, or the same) have nothing: how many had something.");
        Bench b = new Bench().in("A1", "1").in("B2", "'").in("C3", "=A1").in("F8", "FALSE").in("C2", "0");
        due("erase of a cell that has nothing", b.x.erase(1, 2, 1, 2), 0);
        due("total(4)", b.x.total(4), 6);
        due("erase(2, 2, 3, 3)", b.x.erase(2, 2, 3, 3), 3);
        due("A1 B2 C2 C3 F8", b.shows("A1") + b.shows("B2") + b.shows("C2") + b.shows("C3") + b.shows("F8"), "1nothingnothingnothingFALSE");
        due("erase(1, 1, 1, 1)", b.x.erase(1, 1, 1, 1), 1);
        due("erase(8, 6, 8, 6)", b.x.erase(8, 6, 8, 6), 1);
        due("erase of all", b.x.erase(1, 1, 8, 6), 0);
        b.x.undo();
        b.x.undo();
        due("F8", b.shows("F8"), "FALSE");
        due("erase of all", b.x.erase(1, 1, 8, 6), 1);

        Said.promise(6, "IndexOutOfBoundsException: one is not there");
        int[][] none = {{0, 1, 1, 1}, {1, 0, 1, 1}, {9, 1, 9, 1}, {1, 7, 1, 7}, {1, 1, 9, 1}, {1, 1, 1, 7}, {1, 1, 0, 1}, {1, 1, 1, 0}, {9, 1, 8, 1}, {2, 2, 0, 0}, {LEAST, 1, MOST, 1}};
        for (int[] n : none) {
            due("erase(" + n[0] + ", " + n[1] + ", " + n[2] + ", " + n[3] + ")", Bench.of(() -> b.x.erase(n[0], n[1], n[2], n[3])), NO_INDEX);
        }

        Said.promise(6, "IllegalArgumentException: the second one is above or left of the first one.");
        int[][] turned = {{2, 1, 1, 1}, {1, 2, 1, 1}, {8, 6, 1, 1}, {2, 1, 1, 6}, {1, 2, 8, 1}};
        for (int[] n : turned) {
            due("erase(" + n[0] + ", " + n[1] + ", " + n[2] + ", " + n[3] + ")", Bench.of(() -> b.x.erase(n[0], n[1], n[2], n[3])), NO_ARGUMENT);
        }
    }

    private static void insert() {
        Said.promise(7, "a new row (axis 0) or column (1), all nothing, at a place: how many there are then.");
        Bench b = new Bench().in("A1", "first").in("A8", "last").in("F1", "right");
        due("insert(0, 1)", b.x.insert(0, 1), 9);
        due("insert(0, 10)", b.x.insert(0, 10), 10);
        due("insert(1, 1)", b.x.insert(1, 1), 7);
        due("insert(1, 8)", b.x.insert(1, 8), 8);
        due("B2 B9 G2", b.shows("B2") + b.shows("B9") + b.shows("G2"), "'first'last'right");
        String news = "";
        for (int k = 1; k <= 8; k++) {
            news += b.x.kind(-1, 1, k) + "" + b.x.kind(-1, 10, k) + b.x.kind(-1, k, 1) + b.x.kind(-1, k, 8);
        }
        due("all nothing", news, "0".repeat(32));

        Said.promise(7, "IllegalArgumentException: another axis (here and below)");
        int[] axes = {-1, 2, MOST, LEAST};
        for (int axis : axes) {
            due("insert(" + axis + ", 1)", Bench.of(() -> b.x.insert(axis, 1)), NO_ARGUMENT);
            due("remove(" + axis + ", 1)", Bench.of(() -> b.x.remove(axis, 1)), NO_ARGUMENT);
            due("move(" + axis + ", 1, 2)", Bench.of(() -> b.x.move(axis, 1, 2)), NO_ARGUMENT);
        }

        Said.promise(7, "IndexOutOfBoundsException: the place is not 1 .. one more than there are");
        int[][] none = {{0, 0}, {0, 12}, {0, -1}, {0, MOST}, {0, LEAST}, {1, 0}, {1, 10}, {1, MOST}, {1, LEAST}};
        for (int[] n : none) {
            due("insert(" + n[0] + ", " + n[1] + ")", Bench.of(() -> b.x.insert(n[0], n[1])), NO_INDEX);
        }

        Said.promise(7, "IllegalStateException: there are 32 (10) already.");
        Bench c = new Bench();
        for (int n = 9; n <= 32; n++) {
            due("insert(0, 1)", c.x.insert(0, 1), n);
        }
        due("insert(0, 1)", Bench.of(() -> c.x.insert(0, 1)), NO_STATE);
        due("insert(0, 33)", Bench.of(() -> c.x.insert(0, 33)), NO_STATE);
        for (int n = 7; n <= 10; n++) {
            due("insert(1, 1)", c.x.insert(1, 1), n);
        }
        due("insert(1, 1)", Bench.of(() -> c.x.insert(1, 1)), NO_STATE);
        due("insert(1, 11)", Bench.of(() -> c.x.insert(1, 11)), NO_STATE);
        c.x.remove(1, 5);
        c.x.remove(0, 5);
        due("insert(1, 10)", c.x.insert(1, 10), 10);
        due("insert(0, 32)", c.x.insert(0, 32), 32);
    }

    private static void remove() {
        Said.promise(8, "IndexOutOfBoundsException: there is none");
        Bench b = new Bench().in("A8", "last").in("F7", "right");
        int[][] none = {{0, 0}, {0, 9}, {0, -1}, {0, MOST}, {0, LEAST}, {1, 0}, {1, 7}, {1, -1}, {1, MOST}, {1, LEAST}};
        for (int[] n : none) {
            due("remove(" + n[0] + ", " + n[1] + ")", Bench.of(() -> b.x.remove(n[0], n[1])), NO_INDEX);
        }

        Said.promise(8, "the one at a place goes: how many there are then.");
        due("remove(0, 8)", b.x.remove(0, 8), 7);
        due("remove(1, 6)", b.x.remove(1, 6), 5);
        due("remove(0, 1)", b.x.remove(0, 1), 6);
        due("remove(1, 1)", b.x.remove(1, 1), 4);
        due("remove(0, 7)", Bench.of(() -> b.x.remove(0, 7)), NO_INDEX);
        due("remove(1, 5)", Bench.of(() -> b.x.remove(1, 5)), NO_INDEX);

        Said.promise(8, "IllegalStateException: it is the only one.");
        for (int n = 5; n >= 1; n--) {
            due("remove(0, 1)", b.x.remove(0, 1), n);
        }
        due("remove(0, 1)", Bench.of(() -> b.x.remove(0, 1)), NO_STATE);
        for (int n = 3; n >= 1; n--) {
            due("remove(1, 1)", b.x.remove(1, 1), n);
        }
        due("remove(1, 1)", Bench.of(() -> b.x.remove(1, 1)), NO_STATE);
        due("sheet(-1, 0) sheet(-1, 1)", b.x.sheet(-1, 0) + " " + b.x.sheet(-1, 1), "1 1");
    }

    private static void move() {
        Said.promise(9, "the one at a place is at another one then (the others keep their order): how many stand elsewhere now.");
        int[][] moves = {{1, 1, 0}, {1, 2, 2}, {2, 1, 2}, {1, 8, 8}, {8, 1, 8}, {8, 8, 0}, {3, 6, 4}, {6, 3, 4}};
        String[] orders = {"1 2 3 4 5 6 7 8", "2 1 3 4 5 6 7 8", "2 1 3 4 5 6 7 8", "2 3 4 5 6 7 8 1", "8 1 2 3 4 5 6 7", "1 2 3 4 5 6 7 8", "1 2 4 5 6 3 7 8", "1 2 6 3 4 5 7 8"};
        Bench b = new Bench();
        for (int r = 1; r <= 8; r++) {
            b.in("A" + r, String.valueOf(r));
        }
        for (int i = 0; i < moves.length; i++) {
            int steps = b.x.total(4);
            due("move(0, " + moves[i][0] + ", " + moves[i][1] + ")", b.x.move(0, moves[i][0], moves[i][1]), moves[i][2]);
            due("column A", b.column('A', 1, 8), orders[i]);
            due("a step", b.x.total(4), steps + 1);
            b.x.undo();
        }
        due("move(1, 1, 6)", b.x.move(1, 1, 6), 6);
        due("column F", b.column('F', 1, 8), orders[0]);
        due("move(1, 6, 1)", b.x.move(1, 6, 1), 6);
        due("column A", b.column('A', 1, 8), orders[0]);

        Said.promise(9, "IndexOutOfBoundsException: there is no such place.");
        int[][] none = {{0, 0, 1}, {0, 1, 0}, {0, 9, 1}, {0, 1, 9}, {0, 9, 9}, {0, -1, 1}, {0, 1, MOST}, {0, LEAST, 1}, {1, 0, 1}, {1, 1, 0}, {1, 7, 1}, {1, 1, 7}, {1, 8, 8}};
        for (int[] n : none) {
            due("move(" + n[0] + ", " + n[1] + ", " + n[2] + ")", Bench.of(() -> b.x.move(n[0], n[1], n[2])), NO_INDEX);
        }
    }

    private static void copy() {
        Said.promise(10, "COPY of a block (as for erase()) so that its first cell comes to atRow, atColumn: how many cells were copied.");
        Bench b = new Bench().in("A1", "1").in("B1", "2").in("A2", "3").in("B2", "4");
        due("of one cell", b.x.copy(1, 1, 1, 1, 8, 6), 1);
        due("F8", b.shows("F8"), "1");
        due("onto itself", b.x.copy(1, 1, 2, 2, 1, 1), 4);
        due("of all onto itself", b.x.copy(1, 1, 8, 6, 1, 1), 48);
        due("of nothing", b.x.copy(5, 5, 5, 5, 8, 6), 1);
        due("F8", b.shows("F8"), "nothing");

        Said.promise(10, "IndexOutOfBoundsException: a cell of the three is not there");
        int[][] none = {{0, 1, 1, 1, 1, 1}, {1, 0, 1, 1, 1, 1}, {9, 1, 9, 1, 1, 1}, {1, 7, 1, 7, 1, 1}, {1, 1, 9, 1, 1, 1}, {1, 1, 1, 7, 1, 1}, {1, 1, 0, 1, 1, 1}, {1, 1, 1, 1, 0, 1},
            {1, 1, 1, 1, 1, 0}, {1, 1, 1, 1, 9, 1}, {1, 1, 1, 1, 1, 7}, {1, 1, 1, 1, MOST, MOST}, {LEAST, 1, 1, 1, 1, 1}, {1, 1, 1, 1, -1, -1}};
        for (int[] n : none) {
            due("copy(" + n[0] + ", " + n[1] + ", " + n[2] + ", " + n[3] + ", " + n[4] + ", " + n[5] + ")",
                    Bench.of(() -> b.x.copy(n[0], n[1], n[2], n[3], n[4], n[5])), NO_INDEX);
        }

        Said.promise(10, "IllegalArgumentException: as for erase()");
        int[][] turned = {{2, 1, 1, 1}, {1, 2, 1, 1}, {8, 6, 1, 1}, {2, 1, 1, 6}, {1, 2, 8, 1}};
        for (int[] n : turned) {
            due("copy(" + n[0] + ", " + n[1] + ", " + n[2] + ", " + n[3] + ", 1, 1)", Bench.of(() -> b.x.copy(n[0], n[1], n[2], n[3], 1, 1)), NO_ARGUMENT);
        }
    }

    private static void copiedBlocks() {
        Said.term(5, "COPY of a block to a place: all contents as they were ahead of it; what would be outside of the sheet is left out.");
        Bench b = new Bench();
        for (int r = 1; r <= 8; r++) {
            b.in("A" + r, String.valueOf(r));
        }
        due("down over itself", b.x.copy(1, 1, 7, 1, 2, 1), 7);
        due("column A", b.column('A', 1, 8), "1 1 2 3 4 5 6 7");
        b.x.undo();
        due("up over itself", b.x.copy(2, 1, 8, 1, 1, 1), 7);
        due("column A", b.column('A', 1, 8), "2 3 4 5 6 7 8 8");
        b.x.undo();
        due("down, the last is left out", b.x.copy(1, 1, 8, 1, 2, 1), 7);
        due("column A", b.column('A', 1, 8), "1 1 2 3 4 5 6 7");
        b.x.undo();
        due("all but one are left out", b.x.copy(1, 1, 8, 6, 8, 6), 1);
        due("F8", b.shows("F8"), "1");
        b.x.undo();
        due("right, columns are left out", b.x.copy(1, 1, 3, 6, 6, 5), 6);
        due("E6 E7 E8", b.column('E', 5, 8), "nothing 1 2 3");
        Bench c = new Bench().in("A1", "=1").in("B1", "=A1+1").in("C1", "=B1+1");
        due("right over itself", c.x.copy(1, 1, 1, 3, 1, 2), 3);
        due("row 1", c.writes("A1") + c.writes("B1") + c.writes("C1") + c.writes("D1"), "=1=1=B1+1=C1+1");
        due("PARTS", c.x.total(6), 14);
        c.x.copy(1, 1, 1, 4, 1, 6);
        due("PARTS of what is left out do not count", c.x.total(6), 15);
        Bench d = new Bench();
        for (int r = 1; r <= 8; r++) {
            for (char col = 'A'; col <= 'F'; col++) {
                d.in(col + "" + r, col + "" + r);
            }
        }
        due("of four in the midst", d.x.copy(2, 2, 3, 3, 5, 4), 4);
        for (int r = 1; r <= 8; r++) {
            for (char col = 'A'; col <= 'F'; col++) {
                boolean within = (r == 5 || r == 6) && (col == 'D' || col == 'E');
                due("none beside it is changed", d.shows(col + "" + r), "'" + (within ? (char) (col - 2) + "" + (r - 3) : col + "" + r));
            }
        }
    }

    private static void copiedFormulas() {
        Said.term(5, "of SPOTS and AREAS each row without $ becomes the one so many places further on (0, too) in their sheet (the working sheet, or version v) as the cell's place is; if it is not there, or that would be outside, the SPOT or AREA becomes #REF; columns likewise.");
        Bench b = new Bench().in("B2", "=A1+F8+SUM(A1:B2)+A1@0+F8@0");
        b.x.copy(2, 2, 2, 2, 2, 2);
        due("by 0", b.writes("B2"), "=A1+F8+SUM(A1:B2)+A1@0+F8@0");
        b.x.copy(2, 2, 2, 2, 3, 2);
        due("down by 1", b.writes("B3"), "=A2+#REF+SUM(A2:B3)+A2@0+#REF");
        b.x.copy(2, 2, 2, 2, 1, 2);
        due("up by 1", b.writes("B1"), "=#REF+F7+SUM(#REF)+#REF+F7@0");
        b.x.copy(2, 2, 2, 2, 2, 3);
        due("right by 1", b.writes("C2"), "=B1+#REF+SUM(B1:C2)+B1@0+#REF");
        b.x.copy(2, 2, 2, 2, 2, 1);
        due("left by 1", b.writes("A2"), "=#REF+E8+SUM(#REF)+#REF+E8@0");
        b.x.copy(2, 2, 2, 2, 8, 6);
        due("to the corner", b.writes("F8"), "=E7+#REF+SUM(E7:F8)+E7@0+#REF");
        Bench c = new Bench().in("A1", "=A1@0+B1");
        c.x.insert(0, 9);
        c.x.copy(1, 1, 1, 1, 9, 1);
        due("version 0 has no row 9", c.writes("A9"), "=#REF+B9");
        Bench d = new Bench().in("A1", "=A8@0").in("B1", "=A7");
        d.x.remove(0, 8);
        d.x.remove(0, 7);
        d.x.copy(1, 1, 1, 1, 1, 3);
        due("version 0 has it", d.writes("C1"), "=C8@0");

        Said.term(5, "if it is not there, or that would be outside, the SPOT or AREA becomes #REF; columns likewise.");
        Bench f = new Bench().in("C3", "=B2").in("D4", "=SUM(B2:B2)").in("C4", "=B5").in("D5", "=E2");
        f.x.remove(0, 2);
        f.x.copy(2, 3, 2, 3, 4, 3);
        f.x.copy(3, 4, 3, 4, 4, 4);
        due("not there, and further down", f.writes("C4") + f.writes("D4"), "=#REF=SUM(#REF)");
        f.x.remove(1, 2);
        f.x.copy(3, 2, 3, 2, 3, 5);
        due("a column that is not there, and further right", f.writes("E3"), "=#REF");
        String[][] outside = {{"=SUM(A1:$F$8)", "1", "2"}, {"=SUM(A1:$F$8)", "2", "1"}, {"=SUM($A$1:F8)", "3", "2"}, {"=SUM($A$1:F8)", "2", "3"}, {"=SUM($F$8:A1)", "1", "2"},
            {"=SUM($F$8:A1)", "2", "1"}, {"=SUM(F8:$A$1)", "3", "2"}, {"=SUM(F8:$A$1)", "2", "3"}, {"=A1", "1", "2"}, {"=A1", "2", "1"}, {"=F8", "3", "2"}, {"=F8", "2", "3"}};
        for (String[] o : outside) {
            Bench g = new Bench().in("B2", o[0]);
            int row = Integer.parseInt(o[1]);
            int column = Integer.parseInt(o[2]);
            g.x.copy(2, 2, 2, 2, row, column);
            String cell = (char) ('A' + column - 1) + "" + row;
            String due = o[0].startsWith("=SUM") ? "=SUM(#REF)" : "=#REF";
            due(o[0] + " to " + cell, g.writes(cell), due);
            g.x.commit();
            due("it is #REF itself: alike", g.in(cell, due).x.total(9), 1);
        }

        Said.term(5, "(0, too)");
        Bench e = rowComesAgain("=B2", "=SUM(B2:B3)", "=SUM(B1:B2)");
        due("not there, by 0: #REF for good", e.writes("C1") + e.writes("C3") + e.writes("C4"), "=#REF=SUM(#REF)=SUM(#REF)");
        due("what was not copied has it again", e.writes("A1") + e.writes("A3") + e.writes("A4"), "=B2=SUM(B2:B3)=SUM(B1:B2)");
    }

    /** A1, A3, A4 are copied to column C while row 2 is not there; then a MERGE brings row 2 again. */
    private static Bench rowComesAgain(String first, String second, String third) {
        Bench b = new Bench().in("A1", first).in("A3", second).in("A4", third);
        b.x.commit();
        b.x.branch(1);
        b.x.remove(0, 2);
        b.x.copy(1, 1, 3, 1, 1, 3);
        b.x.commit();
        b.x.go(1);
        b.in("E2", "changed").x.commit();
        due("merge(0)", b.x.merge(0), 1);
        due("rows", b.x.sheet(-1, 0), 8);
        return b;
    }

    private static void copiedWithDollars() {
        Said.term(5, "(One with $ stays, whether it is there or not.)");
        Bench b = new Bench().in("B2", "=$A$1+$A1+A$1+SUM($A$1:B2)+SUM(A1:$F$8)+$F$8@0+SUM($A1:B$2)");
        b.x.copy(2, 2, 2, 2, 1, 1);
        due("up and left", b.writes("A1"), "=$A$1+#REF+#REF+SUM($A$1:A1)+SUM(#REF)+$F$8@0+SUM(#REF)");
        b.x.copy(2, 2, 2, 2, 8, 6);
        due("to the corner", b.writes("F8"), "=$A$1+$A7+E$1+SUM($A$1:F8)+SUM(E7:$F$8)+$F$8@0+SUM($A7:F$2)");
        Bench c = rowComesAgain("=$B$2", "=SUM($B$2:$B$3)", "=B$2");
        due("not there, with $: it is there again", c.writes("C1") + c.writes("C3"), "=$B$2=SUM($B$2:$B$3)");
        due("the row with $, the column on", c.writes("C4"), "=D$2");
    }

    private static void copyFull() {
        Said.promise(10, "UnsupportedOperationException: FULL.");
        Bench b = new Bench().in("A1", "=" + "1+".repeat(29) + "-1");
        b.x.copy(1, 1, 1, 1, 1, 2);
        b.x.copy(1, 1, 1, 2, 1, 3);
        b.x.copy(1, 1, 1, 2, 1, 5);
        b.x.copy(1, 1, 1, 6, 2, 1);
        b.x.copy(1, 1, 2, 6, 3, 1);
        b.x.copy(1, 1, 4, 6, 5, 1);
        for (int i = 0; i < 19; i++) {
            b.x.copy(1, 1, 8, 6, 1, 1);
        }
        due("total(6)", b.x.total(6), 57600);
        String before = b.everything();
        due("copy of 48", Bench.of(() -> b.x.copy(1, 1, 8, 6, 1, 1)), NO_SUPPORT);
        due("copy of 41", Bench.of(() -> b.x.copy(1, 1, 7, 6, 1, 1)), NO_SUPPORT);
        due("nothing is changed", b.everything(), before);
        due("copy of 40", Bench.of(() -> b.x.copy(1, 1, 8, 5, 1, 1)), 40);
        due("total(6)", b.x.total(6), 60000);
        due("copy of 1", Bench.of(() -> b.x.copy(1, 1, 1, 1, 2, 2)), NO_SUPPORT);
        b.x.erase(1, 1, 1, 1);
        due("copy without a FORMULA", Bench.of(() -> b.x.copy(1, 1, 1, 1, 2, 2)), 1);
        due("copy whose FORMULAS are left out", Bench.of(() -> b.x.copy(1, 1, 2, 2, 8, 6)), 1);
    }

    private static void sort() {
        Said.promise(11, "SORT: how many rows stand elsewhere now.");
        Bench b = new Bench().in("A1", "3").in("A2", "1").in("A3", "2").in("A8", "0");
        due("sort of one row", b.x.sort(1, 1, 1, false), 0);
        due("a step", b.x.total(4), 5);
        due("sort of rows that stand so", b.x.sort(1, 2, 3, false), 0);
        due("sort(1, 1, 2, false)", b.x.sort(1, 1, 2, false), 2);
        due("column A", b.column('A', 1, 8), "1 3 2 nothing nothing nothing nothing 0");
        due("sort of all", b.x.sort(1, 1, 8, false), 7);
        due("column A", b.column('A', 1, 8), "0 1 2 3 nothing nothing nothing nothing");
        due("sort(6, 1, 8, true)", b.x.sort(6, 1, 8, true), 0);
        due("sort(1, 8, 8, true)", b.x.sort(1, 8, 8, true), 0);

        Said.promise(11, "IndexOutOfBoundsException: there is no such column or row");
        int[][] none = {{0, 1, 1}, {7, 1, 1}, {-1, 1, 1}, {MOST, 1, 8}, {1, 0, 1}, {1, 1, 9}, {1, 9, 9}, {1, 0, 0}, {1, LEAST, MOST}, {1, 1, 0}, {1, 9, 1}};
        for (int[] n : none) {
            due("sort(" + n[0] + ", " + n[1] + ", " + n[2] + ")", Bench.of(() -> b.x.sort(n[0], n[1], n[2], false)), NO_INDEX);
        }

        Said.promise(11, "IllegalArgumentException: to is above from.");
        due("sort(1, 2, 1)", Bench.of(() -> b.x.sort(1, 2, 1, false)), NO_ARGUMENT);
        due("sort(6, 8, 1)", Bench.of(() -> b.x.sort(6, 8, 1, true)), NO_ARGUMENT);
    }

    private static void sortedKinds() {
        Said.term(5, "NUMBERS by size, then TEXTS by bytes, then FALSE, TRUE, then ERRORS, then nothing; turned round, if so told, but nothing stays last; rows alike (all ERRORS are) stay in their order.");
        Bench b = new Bench();
        String[] contents = {"", "=#REF", "TRUE", "b", "10", "=1/0", "FALSE", "", "a", "9", "-10", "ab", "'", "'10", "B", "0"};
        for (int n = 0; n < 8; n++) {
            b.x.insert(0, 1);
        }
        for (int r = 1; r <= 16; r++) {
            b.in("A" + r, contents[r - 1]).in("B" + r, String.valueOf(r));
        }
        due("sort", b.x.sort(1, 1, 16, false), 16);
        due("column A", b.column('A', 1, 16), "-10 0 9 10 ' '10 'B 'a 'ab 'b FALSE TRUE REF DIV nothing nothing");
        due("column B", b.column('B', 1, 16), "11 16 10 5 13 14 15 9 12 4 7 3 2 6 1 8");
        b.x.undo();
        b.x.sort(1, 1, 16, true);
        due("turned, column A", b.column('A', 1, 16), "REF DIV TRUE FALSE 'b 'ab 'a 'B '10 ' 10 9 0 -10 nothing nothing");
        due("turned, column B", b.column('B', 1, 16), "2 6 3 7 4 12 9 15 14 13 5 10 16 11 1 8");
        Bench c = new Bench();
        for (int r = 1; r <= 8; r++) {
            c.in("A" + r, r % 2 == 0 ? "x" : "5").in("B" + r, String.valueOf(r)).in("C" + r, "=A1").in("D" + r, "=B" + r);
        }
        due("rows alike", c.x.sort(3, 1, 8, true), 0);
        due("sort", c.x.sort(1, 1, 8, false), 6);
        due("in their order", c.column('B', 1, 8), "1 3 5 7 2 4 6 8");
        due("FORMULAS follow", c.column('D', 1, 8), "1 3 5 7 2 4 6 8");
        c.x.undo();
        c.x.sort(1, 1, 8, true);
        due("turned, in their order", c.column('B', 1, 8), "2 4 6 8 1 3 5 7");
        due("sort by a FORMULA that follows", c.x.sort(4, 1, 8, false), 8);
        due("column B", c.column('B', 1, 8), "1 2 3 4 5 6 7 8");
    }

    private static void steps() {
        Said.term(5, "Each act that is done (ENTER, ERASE, INSERT, REMOVE, MOVE, COPY, SORT, CHOOSE) is a step that undo() takes back; the latest 40 can be.");
        Bench c = new Bench().in("A1", "base");
        c.x.commit();
        c.in("A1", "theirs").x.commit();
        c.in("A1", "ours").x.pick(2);
        due("CONFLICTS", c.x.total(3), 1);
        String[] sheets = new String[9];
        LongSupplier[] acts = {() -> Long.parseLong(c.enter("B2", "5")), () -> c.x.erase(2, 2, 2, 2), () -> c.x.insert(0, 1), () -> c.x.remove(1, 6), () -> c.x.move(0, 1, 2),
            () -> c.x.copy(1, 1, 1, 1, 3, 3), () -> c.x.sort(1, 1, 8, true), () -> c.x.choose(0, true)};
        for (int i = 0; i < acts.length; i++) {
            sheets[i] = c.contents(-1);
            acts[i].getAsLong();
            due("total(4)", c.x.total(4), i + 1);
        }
        sheets[8] = c.contents(-1);
        for (int i = acts.length - 1; i >= 0; i--) {
            due("undo", c.x.undo(), i);
            due("the sheet of before", c.contents(-1), sheets[i]);
        }
        for (int i = 1; i <= acts.length; i++) {
            due("redo", c.x.redo(), acts.length - i);
            due("the sheet again", c.contents(-1), sheets[i]);
        }
        for (int n = 9; n <= 45; n++) {
            c.in("E1", String.valueOf(n));
            due("total(4)", c.x.total(4), Math.min(n, 40));
        }
        for (int n = 39; n >= 0; n--) {
            due("undo", c.x.undo(), n);
        }
        due("undo of the 41st", Bench.of(c.x::undo), NO_ELEMENT);
        due("the sheet ahead of the latest 40", c.contents(-1), sheets[5]);
        for (int n = 39; n >= 0; n--) {
            due("redo", c.x.redo(), n);
        }
        due("E1", c.shows("E1"), "45");
    }

    private static void undo() {
        Said.promise(12, "The latest step is taken back: how many more can be. NoSuchElementException: there is none.");
        Bench b = new Bench();
        due("undo", Bench.of(b.x::undo), NO_ELEMENT);
        b.in("A1", "1").in("A1", "2");
        due("undo", b.x.undo(), 1);
        due("A1", b.shows("A1"), "1");
        due("undo", b.x.undo(), 0);
        due("A1", b.shows("A1"), "nothing");
        due("undo", Bench.of(b.x::undo), NO_ELEMENT);
        due("total(5)", b.x.total(5), 2);
        b.enter("A1", "=");
        due("undo behind an act that was not done", Bench.of(b.x::undo), NO_ELEMENT);
        due("total(5)", b.x.total(5), 2);
    }

    private static void redo() {
        Said.promise(13, "What was undone latest is done again: how many more can be. NoSuchElementException: there is none.");
        Bench b = new Bench();
        due("redo", Bench.of(b.x::redo), NO_ELEMENT);
        b.in("A1", "1").in("A1", "2");
        due("redo", Bench.of(b.x::redo), NO_ELEMENT);
        b.x.undo();
        b.x.undo();
        due("redo", b.x.redo(), 1);
        due("A1", b.shows("A1"), "1");
        due("redo", b.x.redo(), 0);
        due("A1", b.shows("A1"), "2");
        due("redo", Bench.of(b.x::redo), NO_ELEMENT);

        Said.term(5, "What is undone, redo() does again, until another act is done.");
        b.x.undo();
        b.x.undo();
        b.x.redo();
        b.in("B1", "x");
        due("total(4) total(5)", b.x.total(4) + " " + b.x.total(5), "2 0");
        due("redo", Bench.of(b.x::redo), NO_ELEMENT);
        b.x.undo();
        b.x.commit();
        b.x.diff(0, 1);
        due("redo", b.x.redo(), 0);
        due("B1", b.shows("B1"), "'x");
        b.x.undo();
        due("erase of nothing", b.x.erase(5, 5, 5, 5), 0);
        due("redo", Bench.of(b.x::redo), NO_ELEMENT);
    }

    private static void forgotten() {
        Said.term(5, "DROP, GO, MERGE and PICK forget all steps, also what could be done again.");
        Bench b = new Bench().in("A1", "main");
        b.x.branch(1);
        b.x.commit();
        String[] calls = {"drop", "go", "pick", "merge"};
        LongSupplier[] acts = {b.x::drop, () -> b.x.go(1), () -> b.x.pick(1), () -> b.x.merge(0)};
        for (int i = 0; i < acts.length; i++) {
            b.in("B1", "1").in("B2", "2");
            b.x.undo();
            b.x.erase(1, 2, 1, 2);
            b.in("B2", "2").x.undo();
            due("ahead of " + calls[i], b.x.total(4) > 0 && b.x.total(5) > 0, true);
            acts[i].getAsLong();
            due("behind " + calls[i], b.x.total(4) + " " + b.x.total(5), "0 0");
            due("undo behind " + calls[i], Bench.of(b.x::undo), NO_ELEMENT);
            due("redo behind " + calls[i], Bench.of(b.x::redo), NO_ELEMENT);
        }
        b.x.drop();
        b.in("B1", "1").in("B2", "2").x.undo();
        due("merge of an ancestor", b.x.merge(1), -1);
        due("behind a merge that did nothing", b.x.total(4) + " " + b.x.total(5), "1 1");
        due("go that throws", Bench.of(() -> b.x.go(0)), NO_STATE);
        due("behind a go that threw", b.x.total(4) + " " + b.x.total(5), "1 1");
    }

    /** With a step to undo, one to do again, a tape, a CONFLICT and DIFFERENCES. */
    private static Bench busy() {
        Bench b = new Bench().in("A1", "base").in("A2", "=A1&1");
        b.x.commit();
        b.x.branch(1);
        b.in("A1", "theirs").x.commit();
        b.x.go(1);
        b.in("A1", "ours").x.commit();
        b.x.merge(0);
        b.in("B1", "1").in("B2", "2").x.undo();
        b.x.diff(0, -1);
        b.tape("left");
        return b;
    }

    private static void throwsChangeNothing() {
        Said.everyCall("A call that throws changes nothing but what is said.");
        Bench b = busy();
        String before = b.everything();
        LongSupplier[] calls = {() -> b.x.enter(9, 1), () -> b.x.erase(1, 1, 9, 1), () -> b.x.erase(2, 2, 1, 1), () -> b.x.insert(2, 1), () -> b.x.insert(0, 0), () -> b.x.remove(2, 1),
            () -> b.x.remove(0, 0), () -> b.x.move(2, 1, 1), () -> b.x.move(0, 1, 9), () -> b.x.copy(1, 1, 1, 1, 9, 9), () -> b.x.copy(2, 1, 1, 1, 1, 1), () -> b.x.sort(9, 1, 1, true),
            () -> b.x.sort(1, 2, 1, true), b.x::commit, () -> b.x.branch(6), () -> b.x.branch(0), () -> b.x.go(6), () -> b.x.go(2), () -> b.x.go(0), () -> b.x.merge(6), () -> b.x.merge(2),
            () -> b.x.merge(0), () -> b.x.pick(0), () -> b.x.pick(1), () -> b.x.choose(1, true), () -> b.x.diff(0, 4), () -> b.x.blame(0, 0)};
        for (int i = 0; i < calls.length; i++) {
            due("call " + i + " throws", Bench.of(calls[i]).startsWith("throws."), true);
            due("all behind call " + i, b.everything(), before);
        }
        b.x.end(0);
        b.tape("=1+");
        due("enter with a FAULT", Bench.of(() -> b.x.enter(1, 1)), NO_ARGUMENT);
        due("all but the tape and the FAULT", b.everything(), before.replaceFirst("^((?:\\S+ ){7})4 ", "$10 ").replaceFirst("fault 0@-1", "fault 1@3"));
        Bench c = new Bench();
        String empty = c.everything();
        LongSupplier[] others = {c.x::undo, c.x::redo};
        for (int i = 0; i < others.length; i++) {
            due("call", Bench.of(others[i]), NO_ELEMENT);
            due("all behind it", c.everything(), empty);
        }
    }

    private static void firstOfSeveral() {
        Said.everyCall("Of several exceptions the first one that the call names is thrown.");
        Bench b = busy();
        b.tape("=");
        due("enter: no cell, a FAULT", Bench.of(() -> b.x.enter(9, 1)), NO_INDEX);
        due("erase: not there, turned", Bench.of(() -> b.x.erase(8, 6, 0, 7)), NO_INDEX);
        due("insert: another axis, no place", Bench.of(() -> b.x.insert(2, 0)), NO_ARGUMENT);
        due("remove: another axis, none", Bench.of(() -> b.x.remove(-1, 0)), NO_ARGUMENT);
        due("move: another axis, no place", Bench.of(() -> b.x.move(2, 0, 99)), NO_ARGUMENT);
        due("copy: not there, turned", Bench.of(() -> b.x.copy(2, 2, 1, 1, 9, 1)), NO_INDEX);
        due("sort: no column, turned", Bench.of(() -> b.x.sort(7, 2, 1, false)), NO_INDEX);
        due("go: no number", Bench.of(() -> b.x.go(-1)), NO_INDEX);
        due("go: not there, a MERGE", Bench.of(() -> b.x.go(5)), NO_ELEMENT);
        due("merge: no number", Bench.of(() -> b.x.merge(6)), NO_INDEX);
        due("merge: not there, a MERGE", Bench.of(() -> b.x.merge(5)), NO_ELEMENT);
        due("pick: none such, a MERGE", Bench.of(() -> b.x.pick(0)), NO_ELEMENT);
        Bench full = new Bench();
        for (int n = 9; n <= 32; n++) {
            full.x.insert(0, 1);
        }
        due("insert: no place, 32 already", Bench.of(() -> full.x.insert(0, 34)), NO_INDEX);
        due("insert: another axis, 32 already", Bench.of(() -> full.x.insert(2, 1)), NO_ARGUMENT);
        Bench one = new Bench();
        for (int n = 7; n >= 1; n--) {
            one.x.remove(0, 1);
        }
        due("remove: none, the only one", Bench.of(() -> one.x.remove(0, 2)), NO_INDEX);
        due("remove: another axis, the only one", Bench.of(() -> one.x.remove(3, 1)), NO_ARGUMENT);
        Bench forty = busy();
        forty.x.choose(0, true);
        while (forty.x.total(0) < 40) {
            forty.x.commit();
        }
        forty.in("A1", "other").x.pick(2);
        due("commit: a CONFLICT, 40", Bench.of(forty.x::commit), NO_STATE);
        forty.x.choose(0, false);
        due("commit: 40", Bench.of(forty.x::commit), NO_SUPPORT);
    }
}
