/** Promises 6 to 13: acts on the working sheet, undo and redo. */
public final class ActsTest {
    public static void main(String[] args) {
        erase();
        insert();
        remove();
        move();
        copy();
        copiedFormulas();
        sort();
        sortThrows();
        undo();
        redo();
        Bench.finish();
    }

    private static void due(String call, Object got, Object want) {
        Bench.due(call, got, want);
    }

    private static void erase() {
        Bench.about("promise 6");
        Bench b = new Bench().in("A1", "1").in("B2", "x").in("C3", "=1").in("F8", "TRUE");
        due("erase(1, 1, 2, 2)", b.x.erase(1, 1, 2, 2), 2);
        due("A1 B2 C3", b.shows("A1") + b.shows("B2") + b.shows("C3"), "nothingnothing1");
        due("erase(3, 3, 3, 3)", b.x.erase(3, 3, 3, 3), 1);
        due("erase(3, 3, 3, 3)", b.x.erase(3, 3, 3, 3), 0);
        due("steps", b.x.total(4), 7);
        int[][] none = {{0, 1, 1, 1}, {1, 0, 1, 1}, {1, 1, 9, 1}, {1, 1, 1, 7}, {9, 1, 1, 1}, {1, 7, 1, 1}};
        for (int[] n : none) {
            due("erase of no cell", Bench.of(() -> b.x.erase(n[0], n[1], n[2], n[3])), "throws.IndexOutOfBoundsException");
        }
        due("erase(2, 1, 1, 1)", Bench.of(() -> b.x.erase(2, 1, 1, 1)), "throws.IllegalArgumentException");
        due("erase(1, 2, 1, 1)", Bench.of(() -> b.x.erase(1, 2, 1, 1)), "throws.IllegalArgumentException");
        due("steps", b.x.total(4), 7);
        due("erase(1, 1, 8, 6)", b.x.erase(1, 1, 8, 6), 1);
    }

    private static void insert() {
        Bench.about("promise 7");
        Bench b = new Bench().in("A1", "1").in("A8", "8").in("F1", "f");
        due("insert(0, 1)", b.x.insert(0, 1), 9);
        due("insert(0, 10)", b.x.insert(0, 10), 10);
        due("insert(1, 7)", b.x.insert(1, 7), 7);
        due("insert(1, 2)", b.x.insert(1, 2), 8);
        due("sheet", b.x.sheet(-1, 0) + " " + b.x.sheet(-1, 1), "10 8");
        due("column A", b.column('A', 1, 10), "nothing 1 nothing nothing nothing nothing nothing nothing 8 nothing");
        due("G2", b.shows("G2"), "'f");
        int[][] wrong = {{2, 1}, {-1, 1}, {0, 0}, {0, 12}, {1, 0}, {1, 10}};
        String[] thrown = {"IllegalArgument", "IllegalArgument", "IndexOutOfBounds", "IndexOutOfBounds", "IndexOutOfBounds", "IndexOutOfBounds"};
        for (int i = 0; i < wrong.length; i++) {
            int[] w = wrong[i];
            due("insert(" + w[0] + ", " + w[1] + ")", Bench.of(() -> b.x.insert(w[0], w[1])), "throws." + thrown[i] + "Exception");
        }
        for (int n = 11; n <= 32; n++) {
            due("insert(0, 1)", b.x.insert(0, 1), n);
        }
        due("insert(0, 1) of 32", Bench.of(() -> b.x.insert(0, 1)), "throws.IllegalStateException");
        due("insert(0, 34) of 32", Bench.of(() -> b.x.insert(0, 34)), "throws.IndexOutOfBoundsException");
        b.x.insert(1, 1);
        b.x.insert(1, 1);
        due("insert(1, 11) of 10", Bench.of(() -> b.x.insert(1, 11)), "throws.IllegalStateException");
        due("insert(2, 99)", Bench.of(() -> b.x.insert(2, 99)), "throws.IllegalArgumentException");
        Bench c = new Bench();
        c.x.insert(0, 1);
        c.x.commit();
        c.x.undo();
        c.x.insert(0, 1);
        due("another row than the one that was", c.x.diff(1, -1), 2);
    }

    private static void remove() {
        Bench.about("promise 8");
        Bench b = new Bench().in("A1", "1").in("A2", "2").in("B3", "=A1+A2");
        due("remove(0, 1)", b.x.remove(0, 1), 7);
        due("A1", b.shows("A1"), "2");
        due("B2", b.shows("B2") + b.writes("B2"), "REF=#REF+A1");
        due("remove(1, 6)", b.x.remove(1, 6), 5);
        int[][] wrong = {{2, 1}, {-1, 1}, {0, 0}, {0, 8}, {1, 0}, {1, 6}};
        String[] thrown = {"IllegalArgument", "IllegalArgument", "IndexOutOfBounds", "IndexOutOfBounds", "IndexOutOfBounds", "IndexOutOfBounds"};
        for (int i = 0; i < wrong.length; i++) {
            int[] w = wrong[i];
            due("remove(" + w[0] + ", " + w[1] + ")", Bench.of(() -> b.x.remove(w[0], w[1])), "throws." + thrown[i] + "Exception");
        }
        for (int n = 6; n >= 1; n--) {
            due("remove(0, 1)", b.x.remove(0, 1), n);
        }
        due("remove(0, 1) of one", Bench.of(() -> b.x.remove(0, 1)), "throws.IllegalStateException");
        due("remove(0, 2) of one", Bench.of(() -> b.x.remove(0, 2)), "throws.IndexOutOfBoundsException");
        for (int n = 4; n >= 1; n--) {
            due("remove(1, 1)", b.x.remove(1, 1), n);
        }
        due("remove(1, 1) of one", Bench.of(() -> b.x.remove(1, 1)), "throws.IllegalStateException");
        due("sheet", b.x.sheet(-1, 0) + " " + b.x.sheet(-1, 1), "1 1");
    }

    private static void move() {
        Bench.about("promise 9");
        Bench b = new Bench();
        for (int r = 1; r <= 5; r++) {
            b.in("A" + r, String.valueOf(r));
        }
        b.in("B1", "=A2");
        due("move(0, 2, 4)", b.x.move(0, 2, 4), 3);
        due("column A", b.column('A', 1, 5), "1 3 4 2 5");
        due("B1", b.writes("B1") + b.shows("B1"), "=A42");
        due("move(0, 5, 1)", b.x.move(0, 5, 1), 5);
        due("column A", b.column('A', 1, 5), "5 1 3 4 2");
        due("move(0, 3, 3)", b.x.move(0, 3, 3), 0);
        due("move(1, 1, 6)", b.x.move(1, 1, 6), 6);
        due("F1 A2", b.shows("F1") + b.writes("A2"), "5=F5");
        due("steps", b.x.total(4), 10);
        int[][] wrong = {{2, 1, 1}, {-1, 0, 0}, {0, 0, 1}, {0, 1, 0}, {0, 9, 1}, {0, 1, 9}, {1, 7, 1}, {1, 1, 7}};
        for (int[] w : wrong) {
            due("move(" + w[0] + ", " + w[1] + ", " + w[2] + ")", Bench.of(() -> b.x.move(w[0], w[1], w[2])),
                    w[0] == 0 || w[0] == 1 ? "throws.IndexOutOfBoundsException" : "throws.IllegalArgumentException");
        }
    }

    private static void copy() {
        Bench.about("promise 10");
        Bench b = new Bench().in("A1", "1").in("A2", "x").in("B1", "TRUE");
        due("copy over itself", b.x.copy(1, 1, 2, 2, 2, 1), 4);
        due("column A", b.column('A', 1, 4), "1 1 'x nothing");
        due("column B", b.column('B', 1, 4), "TRUE TRUE nothing nothing");
        due("copy to the corner", b.x.copy(1, 1, 3, 2, 8, 6), 1);
        due("F8", b.shows("F8"), "1");
        due("copy to the last row", b.x.copy(1, 1, 3, 2, 8, 1), 2);
        int[][] none = {{0, 1, 1, 1, 1, 1}, {1, 1, 9, 1, 1, 1}, {1, 1, 1, 1, 0, 1}, {1, 1, 1, 1, 1, 7}, {2, 1, 1, 1, 9, 1}};
        for (int[] n : none) {
            due("copy of no cell", Bench.of(() -> b.x.copy(n[0], n[1], n[2], n[3], n[4], n[5])), "throws.IndexOutOfBoundsException");
        }
        due("copy(2, 1, 1, 1, ..)", Bench.of(() -> b.x.copy(2, 1, 1, 1, 1, 1)), "throws.IllegalArgumentException");
        due("copy(1, 2, 1, 1, ..)", Bench.of(() -> b.x.copy(1, 2, 1, 1, 1, 1)), "throws.IllegalArgumentException");
        due("steps", b.x.total(4), 6);
    }

    private static void copiedFormulas() {
        Bench.about("promise 10, FORMULAS");
        Bench b = new Bench().in("C3", "=A1+$A1+A$1+$A$1+SUM(A1:$B$2)");
        b.x.copy(3, 3, 3, 3, 5, 4);
        due("D5", b.writes("D5"), "=B3+$A3+B$1+$A$1+SUM(B3:$B$2)");
        b.x.copy(3, 3, 3, 3, 2, 3);
        due("C2", b.writes("C2"), "=#REF+#REF+A$1+$A$1+SUM(#REF)");
        b.x.copy(3, 3, 3, 3, 3, 2);
        due("B3", b.writes("B3"), "=#REF+$A1+#REF+$A$1+SUM(#REF)");
        b.x.copy(3, 3, 3, 3, 8, 6);
        due("F8", b.writes("F8"), "=D6+$A6+D$1+$A$1+SUM(D6:$B$2)");
        due("parts", b.x.total(6), 50);
        Bench c = new Bench();
        c.x.commit();
        c.x.remove(0, 8);
        c.in("A1", "=A7@1+A1@0").in("B1", "=A7").in("C1", "=$A$7").in("D1", "=A$7+1");
        c.x.copy(1, 1, 1, 1, 2, 1);
        due("in its version", c.writes("A2"), "=A8@1+A2@0");
        c.x.copy(1, 1, 1, 1, 3, 1);
        due("outside of its version", c.writes("A3"), "=#REF+A3@0");
        c.x.remove(0, 7);
        c.x.copy(1, 2, 1, 4, 1, 2);
        c.x.undo();
        c.x.undo();
        due("as it was", c.writes("B1") + c.writes("C1"), "=A7=$A$7");
        c.x.redo();
        c.x.copy(1, 2, 1, 4, 1, 2);
        due("not there, without $", c.writes("B1"), "=#REF");
        c.x.insert(0, 7);
        due("not there, with $", c.writes("C1"), "=#REF");
        c.x.diff(1, -1);
        Bench d = new Bench().in("A1", "=$B$2").in("A2", "=B$2").in("A3", "=B2");
        d.x.commit();
        d.x.branch(1);
        d.x.remove(0, 2);
        d.x.copy(1, 1, 1, 1, 1, 3);
        d.x.copy(2, 1, 2, 1, 2, 3);
        d.x.commit();
        d.x.go(1);
        d.in("B2", "7");
        d.x.merge(0);
        due("with $ it stays, and is there again", d.writes("C1") + d.writes("A1"), "=$B$2=$B$2");
        due("without $ it is not", d.writes("C3"), "=#REF");
    }

    private static void sort() {
        Bench.about("promise 11");
        Bench b = new Bench().in("A1", "FALSE").in("A2", "b").in("A3", "=1/0").in("A5", "10").in("A6", "TRUE").in("A7", "a").in("A8", "-3");
        b.in("B3", "=A8").in("C1", "=ROW(A1)");
        due("sort(1, 1, 8, false)", b.x.sort(1, 1, 8, false), 7);
        due("column A", b.column('A', 1, 8), "-3 10 'a 'b FALSE TRUE DIV nothing");
        due("B7", b.writes("B7") + b.shows("B7"), "=A1-3");
        due("C5", b.writes("C5"), "=ROW(A5)");
        due("sort(1, 1, 8, true)", b.x.sort(1, 1, 8, true), 6);
        due("column A", b.column('A', 1, 8), "DIV TRUE FALSE 'b 'a 10 -3 nothing");
        due("sort(1, 4, 5, false)", b.x.sort(1, 4, 5, false), 2);
        due("column A", b.column('A', 1, 8), "DIV TRUE FALSE 'a 'b 10 -3 nothing");
        due("sort(2, 1, 8, false), -3 first", b.x.sort(2, 1, 8, false), 0);
        Bench c = new Bench().in("A1", "2").in("A2", "=1/0").in("A3", "1").in("A4", "=#REF").in("A5", "2").in("A7", "ab").in("A8", "a");
        for (int r = 1; r <= 8; r++) {
            c.in("B" + r, String.valueOf(r));
        }
        due("sort", c.x.sort(1, 1, 8, false), 8);
        due("those alike keep their order", c.column('B', 1, 8), "3 1 5 8 7 2 4 6");
        due("sort turned", c.x.sort(1, 1, 8, true), 6);
        due("those alike keep their order", c.column('B', 1, 8), "2 4 7 8 1 5 3 6");
        due("sort of one row", c.x.sort(1, 3, 3, false), 0);
        due("steps", c.x.total(4), 18);
    }

    private static void sortThrows() {
        Bench.about("promise 11, exceptions");
        Bench b = new Bench();
        int[][] none = {{0, 1, 1}, {7, 1, 1}, {1, 0, 1}, {1, 1, 9}, {1, 9, 1}, {7, 2, 1}};
        for (int[] n : none) {
            due("sort of no cell", Bench.of(() -> b.x.sort(n[0], n[1], n[2], false)), "throws.IndexOutOfBoundsException");
        }
        due("sort(1, 2, 1)", Bench.of(() -> b.x.sort(1, 2, 1, false)), "throws.IllegalArgumentException");
        due("steps", b.x.total(4), 0);
    }

    private static void undo() {
        Bench.about("promise 12");
        Bench b = new Bench();
        due("undo of nothing", Bench.of(b.x::undo), "throws.NoSuchElementException");
        b.in("A1", "1").in("A1", "1");
        b.x.erase(1, 1, 1, 1);
        b.x.insert(0, 1);
        b.x.remove(1, 1);
        b.x.move(0, 1, 1);
        b.x.copy(1, 1, 1, 1, 2, 2);
        b.x.sort(1, 1, 2, false);
        due("steps", b.x.total(4), 8);
        for (int n = 7; n >= 4; n--) {
            due("undo", b.x.undo(), n);
        }
        due("sheet", b.x.sheet(-1, 0) + " " + b.x.sheet(-1, 1), "9 6");
        due("undo", b.x.undo(), 3);
        due("A1", b.shows("A1"), "nothing");
        due("undo", b.x.undo(), 2);
        due("A1", b.shows("A1"), "1");
        due("undone", b.x.total(5), 6);
        due("undo", b.x.undo(), 1);
        due("undo", b.x.undo(), 0);
        due("like the HEAD", b.x.total(9), 1);
        due("undo of nothing", Bench.of(b.x::undo), "throws.NoSuchElementException");
        for (int i = 1; i <= 45; i++) {
            b.in("A1", String.valueOf(i));
        }
        due("steps", b.x.total(4), 40);
        for (int n = 39; n >= 0; n--) {
            due("undo", b.x.undo(), n);
        }
        due("A1", b.shows("A1"), "5");
        due("undone", b.x.total(5), 40);
    }

    private static void redo() {
        Bench.about("promise 13");
        Bench b = new Bench();
        due("redo of nothing", Bench.of(b.x::redo), "throws.NoSuchElementException");
        b.in("A1", "1").in("A1", "2").in("A1", "3");
        b.x.undo();
        b.x.undo();
        due("redo", b.x.redo(), 1);
        due("A1", b.shows("A1"), "2");
        due("steps", b.x.total(4), 2);
        b.x.commit();
        due("redo behind commit", b.x.redo(), 0);
        due("A1", b.shows("A1"), "3");
        due("redo of nothing", Bench.of(b.x::redo), "throws.NoSuchElementException");
        b.x.undo();
        b.in("B1", "4");
        due("redo behind an act", Bench.of(b.x::redo), "throws.NoSuchElementException");
        b.x.undo();
        b.enter("A1", "=1+");
        due("redo behind an act that was not done", b.x.redo(), 0);
        b.x.undo();
        b.x.drop();
        due("behind drop", b.x.total(4) + " " + b.x.total(5), "0 0");
    }
}
