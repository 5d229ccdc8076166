/** Promises 14 to 26 and 31: versions, branches, MERGE, PICK, CONFLICTS, differences. */
public final class VersionsTest {
    public static void main(String[] args) {
        commit();
        branch();
        go();
        drop();
        merge();
        mergeThrows();
        mergedRows();
        mergedOrder();
        mergedCells();
        mergedTooMany();
        pick();
        twoHundred();
        conflict();
        choose();
        base();
        diff();
        blame();
        sheet();
        total();
        Bench.finish();
    }

    private static void due(String call, Object got, Object want) {
        Bench.due(call, got, want);
    }

    private static String rowsOf(Bench b, char letter) {
        return b.column(letter, 1, b.x.sheet(-1, 0)).replace("'", "");
    }

    /** A1 .. A8 are r1 .. r8, version 1; branch 1 is there. */
    private static Bench forked() {
        Bench b = new Bench();
        for (int r = 1; r <= 8; r++) {
            b.in("A" + r, "r" + r);
        }
        b.x.commit();
        b.x.branch(1);
        return b;
    }

    private static void commit() {
        Bench.about("promise 14");
        Bench b = new Bench().in("A1", "1");
        due("commit", b.x.commit(), 1);
        due("steps stay", b.x.total(4), 1);
        due("parent", b.x.sheet(1, 2), 0);
        due("other parent", b.x.sheet(1, 3), -1);
        due("HEAD", b.x.total(2), 1);
        due("commit of the same", b.x.commit(), 2);
        b.x.undo();
        due("the version stays", b.shows(2, "A1"), "1");
        due("the working sheet goes", b.shows("A1"), "nothing");
        for (int v = 3; v < 40; v++) {
            due("commit", b.x.commit(), v);
        }
        due("commit of the 41st", Bench.of(b.x::commit), "throws.UnsupportedOperationException");
        due("versions", b.x.total(0), 40);
        b.in("A1", "2").x.pick(1);
        due("conflicts", b.x.total(3), 1);
        due("commit with a CONFLICT", Bench.of(b.x::commit), "throws.IllegalStateException");
    }

    private static void branch() {
        Bench.about("promise 15");
        Bench b = new Bench().in("A1", "1");
        b.x.commit();
        due("branch(5)", b.x.branch(5), 1);
        due("at", b.x.total(15), 1);
        due("gone to", b.x.total(1), 0);
        due("branch(5)", Bench.of(() -> b.x.branch(5)), "throws.IllegalStateException");
        due("branch(0)", Bench.of(() -> b.x.branch(0)), "throws.IllegalStateException");
        due("branch(6)", Bench.of(() -> b.x.branch(6)), "throws.IndexOutOfBoundsException");
        due("branch(-1)", Bench.of(() -> b.x.branch(-1)), "throws.IndexOutOfBoundsException");
        b.x.commit();
        due("only the branch gone to goes on", b.x.total(10) + " " + b.x.total(15), "2 1");
    }

    private static void go() {
        Bench.about("promise 16");
        Bench b = forked();
        b.in("B1", "main").x.commit();
        due("go(1)", b.x.go(1), 1);
        due("gone to", b.x.total(1), 1);
        due("B1", b.shows("B1"), "nothing");
        due("steps", b.x.total(4), 0);
        due("go(0)", b.x.go(0), 2);
        due("B1", b.shows("B1"), "'main");
        due("go(6)", Bench.of(() -> b.x.go(6)), "throws.IndexOutOfBoundsException");
        due("go(-1)", Bench.of(() -> b.x.go(-1)), "throws.IndexOutOfBoundsException");
        due("go(2)", Bench.of(() -> b.x.go(2)), "throws.NoSuchElementException");
        b.in("B1", "x");
        due("go with a content that is not alike", Bench.of(() -> b.x.go(1)), "throws.IllegalStateException");
        b.in("B1", "main");
        due("go when it is alike again", b.x.go(1), 1);
        b.x.move(0, 1, 2);
        due("go with another order", Bench.of(() -> b.x.go(0)), "throws.IllegalStateException");
        due("go to no branch", Bench.of(() -> b.x.go(3)), "throws.NoSuchElementException");
        b.x.undo();
        b.x.insert(1, 7);
        due("go with another column", Bench.of(() -> b.x.go(0)), "throws.IllegalStateException");
        b.x.undo();
        due("go(1) to where it is", b.x.go(1), 1);
        b.x.merge(0);
        due("go in a MERGE", Bench.of(() -> b.x.go(0)), "throws.IllegalStateException");
        b.x.drop();
        b.in("B1", "y").x.commit();
        b.x.pick(2);
        due("conflicts", b.x.total(3), 1);
        due("like the HEAD", b.x.total(9), 1);
        due("go with a CONFLICT", Bench.of(() -> b.x.go(0)), "throws.IllegalStateException");
        b.x.choose(0, false);
        due("conflict ahead of go", b.x.conflict(0, 0), 3);
        due("go when it is settled", b.x.go(0), 2);
        due("conflict behind go", b.x.conflict(0, 0), -1);
    }

    private static void drop() {
        Bench.about("promise 17");
        Bench b = forked();
        b.in("A1", "main").x.commit();
        b.x.go(1);
        b.in("A1", "other").x.commit();
        b.x.merge(0);
        b.in("C3", "=1").x.undo();
        due("drop", b.x.drop(), 3);
        due("like the HEAD", b.x.total(9), 1);
        due("steps", b.x.total(4) + " " + b.x.total(5), "0 0");
        due("conflicts", b.x.total(3), 0);
        due("conflict", b.x.conflict(0, 0), -1);
        due("other parent to be", b.x.sheet(-1, 3), -1);
        due("merges", b.x.total(8), 1);
        b.in("A1", "z").x.insert(0, 1);
        due("drop", b.x.drop(), 3);
        due("A1", b.shows("A1"), "'other");
    }

    private static void merge() {
        Bench.about("promise 18");
        Bench b = forked();
        b.in("B1", "=A1&1").x.commit();
        due("merge of an ancestor", b.x.merge(1), -1);
        due("merge of itself", b.x.merge(0), -1);
        due("merges", b.x.total(8), 0);
        due("steps", b.x.total(4), 9);
        b.x.go(1);
        b.in("C1", "=B1").x.commit();
        b.in("D1", "not committed");
        due("merge(0)", b.x.merge(0), 0);
        due("B1 C1 D1", b.shows("B1") + b.shows("C1") + b.shows("D1"), "'r11'r11'not committed");
        due("under way", b.x.sheet(-1, 3), 2);
        due("steps", b.x.total(4), 0);
        due("undo", Bench.of(b.x::undo), "throws.NoSuchElementException");
        due("merge in a MERGE", Bench.of(() -> b.x.merge(1)), "throws.IllegalStateException");
        due("pick in a MERGE", Bench.of(() -> b.x.pick(1)), "throws.IllegalStateException");
        due("commit", b.x.commit(), 4);
        due("parents", b.x.sheet(4, 2) + " " + b.x.sheet(4, 3), "3 2");
        due("under way", b.x.sheet(-1, 3), -1);
        due("merge of an ancestor by the other parent", b.x.merge(0), -1);
    }

    private static void mergeThrows() {
        Bench.about("promise 18, exceptions");
        Bench b = forked();
        due("merge(6)", Bench.of(() -> b.x.merge(6)), "throws.IndexOutOfBoundsException");
        due("merge(-1)", Bench.of(() -> b.x.merge(-1)), "throws.IndexOutOfBoundsException");
        due("merge(2)", Bench.of(() -> b.x.merge(2)), "throws.NoSuchElementException");
        b.in("A1", "x").x.commit();
        b.x.go(1);
        b.in("A1", "y").x.commit();
        due("pick(2)", b.x.pick(2), 1);
        due("merge with a CONFLICT", Bench.of(() -> b.x.merge(0)), "throws.IllegalStateException");
        due("also of an ancestor", Bench.of(() -> b.x.merge(1)), "throws.IllegalStateException");
        due("pick with a CONFLICT", Bench.of(() -> b.x.pick(1)), "throws.IllegalStateException");
        b.x.choose(0, true);
        due("conflict", b.x.conflict(0, 3), 1);
        due("merge of an ancestor", b.x.merge(1), -1);
        due("the CONFLICTS stay", b.x.conflict(0, 0), 3);
        due("merge when it is settled", b.x.merge(0), 0);
        due("the CONFLICTS are gone", b.x.conflict(0, 0), -1);
    }

    private static void mergedRows() {
        Bench.about("merged rows and columns");
        Bench b = forked();
        b.x.insert(0, 3);
        b.in("A3", "new0");
        b.x.remove(0, 9);
        b.x.remove(0, 7);
        b.in("A5", "main").x.remove(0, 1);
        b.x.commit();
        b.x.go(1);
        b.x.insert(0, 9);
        b.in("A9", "new1").in("A6", "changed").in("B1", "more").x.remove(0, 4);
        b.x.remove(0, 2);
        due("rows", rowsOf(b, 'A'), "r1 r3 r5 changed r7 r8 new1");
        b.x.commit();
        b.x.go(0);
        due("rows", rowsOf(b, 'A'), "r2 new0 r3 main r5 r7");
        due("merge", b.x.merge(1), 3);
        due("rows", rowsOf(b, 'A'), "new0 r1 r3 main r5 changed r7 new1");
        due("0: r1, by T", b.x.conflict(0, 0) + " " + b.x.conflict(0, 1) + " " + b.x.conflict(0, 2), "1 2 0");
        due("1: r4, by O", b.x.conflict(1, 0) + " " + b.x.conflict(1, 1) + " " + b.x.conflict(1, 2), "1 4 0");
        due("2: r6, by T", b.x.conflict(2, 0) + " " + b.x.conflict(2, 1) + " " + b.x.conflict(2, 2), "1 6 0");
        due("choose", b.x.choose(0, false) + " " + b.x.choose(1, true) + " " + b.x.choose(2, true), "2 1 0");
        due("rows", rowsOf(b, 'A'), "new0 r3 r5 changed r7 new1");
        Bench c = new Bench().in("A1", "a").in("B1", "b").in("C1", "c");
        c.x.commit();
        c.x.branch(1);
        c.x.remove(1, 2);
        c.x.remove(1, 2);
        c.x.commit();
        c.x.go(1);
        c.in("C5", "changed").x.insert(0, 1);
        c.x.insert(1, 3);
        c.x.commit();
        c.x.go(0);
        due("merge", c.x.merge(1), 1);
        due("kind 2", c.x.conflict(0, 0) + " " + c.x.conflict(0, 1) + " " + c.x.conflict(0, 2), "2 0 3");
        due("columns", c.x.sheet(-1, 1), 6);
        due("row 2", c.shows("A2") + c.shows("B2") + c.shows("C2"), "'anothing'c");
        Bench d = forked();
        d.x.remove(0, 3);
        d.x.commit();
        d.x.go(1);
        d.x.insert(1, 2);
        d.x.commit();
        due("a new column, nothing in it: not changed", d.x.merge(0), 0);
        due("rows", d.x.sheet(-1, 0), 7);
        d.x.drop();
        d.in("B3", "x").x.commit();
        due("a new column with something in it: changed", d.x.merge(0), 1);
        due("its row", d.x.conflict(0, 1), 3);
    }

    private static void mergedOrder() {
        Bench.about("merged order");
        Bench b = forked();
        b.x.move(0, 1, 8);
        b.x.insert(0, 1);
        b.in("A1", "o").x.commit();
        b.x.go(1);
        b.x.move(0, 8, 1);
        b.x.insert(0, 3);
        b.in("A3", "t1").x.insert(0, 4);
        b.in("A4", "t2").x.commit();
        due("theirs", rowsOf(b, 'A'), "r8 r1 t1 t2 r2 r3 r4 r5 r6 r7");
        due("merge", b.x.merge(0), 0);
        due("OURS changed the order", rowsOf(b, 'A'), "o r8 r1 t1 t2 r2 r3 r4 r5 r6 r7");
        b.x.drop();
        b.x.go(0);
        due("ours", rowsOf(b, 'A'), "o r2 r3 r4 r5 r6 r7 r8 r1");
        due("merge", b.x.merge(1), 0);
        due("OURS changed the order", rowsOf(b, 'A'), "o r2 r3 r4 r5 r6 r7 r8 r1 t1 t2");
        Bench c = forked();
        c.x.insert(0, 5);
        c.in("A5", "o").x.commit();
        c.x.go(1);
        c.x.move(0, 4, 8);
        c.x.commit();
        c.x.go(0);
        due("merge", c.x.merge(1), 0);
        due("only THEIRS changed the order", rowsOf(c, 'A'), "r1 r2 r3 r5 r6 r7 r8 r4 o");
        Bench d = new Bench().in("A1", "a").in("B1", "b").in("C1", "c");
        d.x.commit();
        d.x.branch(1);
        d.x.move(1, 1, 3);
        d.x.commit();
        d.x.go(1);
        due("merge", d.x.merge(0), 0);
        due("columns likewise", d.shows("A1") + d.shows("B1") + d.shows("C1"), "'b'c'a");
    }

    private static void mergedCells() {
        Bench.about("merged cells");
        Bench b = new Bench().in("A1", "old").in("A2", "old").in("A3", "old").in("A4", "old").in("A5", "=A1");
        b.x.commit();
        b.x.branch(1);
        b.in("A1", "ours").in("A3", "same").in("A4", "ours").in("B1", "ours").in("A5", "=$A1").in("B3", "1").x.insert(1, 7);
        b.in("G1", "col").x.commit();
        b.x.go(1);
        b.in("A2", "theirs").in("A3", "same").in("A4", "theirs").in("B1", "theirs").in("A5", "=A$1").in("B2", "2").x.insert(0, 9);
        b.in("A9", "row").x.commit();
        b.x.go(0);
        due("merge", b.x.merge(1), 3);
        due("column A", b.column('A', 1, 9), "'ours 'theirs 'same 'ours 'ours nothing nothing nothing 'row");
        due("column B", b.column('B', 1, 3), "'ours 2 1");
        due("G1 G9", b.shows("G1") + b.shows("G9"), "'colnothing");
        String[] places = {"3 1 2 0", "3 4 1 0", "3 5 1 0"};
        for (int i = 0; i < 3; i++) {
            due("conflict " + i, b.x.conflict(i, 0) + " " + b.x.conflict(i, 1) + " " + b.x.conflict(i, 2) + " " + b.x.conflict(i, 3), places[i]);
        }
        due("choose", b.x.choose(2, true), 2);
        due("A5", b.writes("A5"), "=A$1");
        due("choose", b.x.choose(2, false), 2);
        due("A5", b.writes("A5"), "=$A1");
    }

    private static void mergedTooMany() {
        Bench.about("promise 18, too many");
        Bench b = new Bench();
        b.x.branch(1);
        for (int i = 0; i < 13; i++) {
            b.x.insert(0, 1);
        }
        b.x.commit();
        b.x.go(1);
        for (int i = 0; i < 12; i++) {
            b.x.insert(0, 1);
        }
        b.x.commit();
        b.in("A1", "1");
        due("33 rows", Bench.of(() -> b.x.merge(0)), "throws.IllegalStateException");
        due("nothing is done", b.x.total(8) + " " + b.x.total(4) + " " + b.x.sheet(-1, 3), "0 " + b.x.total(4) + " -1");
        due("33 rows by pick", Bench.of(() -> b.x.pick(1)), "throws.IllegalStateException");
        b.x.undo();
        b.x.undo();
        due("32 rows", b.x.merge(0), 0);
        due("rows", b.x.sheet(-1, 0), 32);
        Bench c = new Bench();
        c.x.branch(1);
        for (int i = 0; i < 4; i++) {
            c.x.remove(0, 1);
        }
        c.x.commit();
        c.x.go(1);
        for (int i = 0; i < 4; i++) {
            c.x.remove(0, 5);
        }
        c.x.commit();
        due("no row", Bench.of(() -> c.x.merge(0)), "throws.IllegalStateException");
        c.x.undo();
        due("one row", c.x.merge(0), 0);
        due("rows", c.x.sheet(-1, 0), 1);
        Bench e = new Bench();
        e.x.branch(1);
        for (int i = 0; i < 3; i++) {
            e.x.remove(1, 1);
        }
        e.x.commit();
        e.x.go(1);
        for (int i = 0; i < 3; i++) {
            e.x.remove(1, 4);
        }
        e.x.commit();
        due("no column", Bench.of(() -> e.x.merge(0)), "throws.IllegalStateException");
        e.x.undo();
        due("one column", e.x.merge(0), 0);
        due("columns", e.x.sheet(-1, 1), 1);
        Bench d = new Bench();
        d.x.branch(1);
        for (int i = 0; i < 3; i++) {
            d.x.insert(1, 1);
        }
        d.x.commit();
        d.x.go(1);
        d.x.insert(1, 1);
        d.x.insert(1, 1);
        d.x.commit();
        due("11 columns", Bench.of(() -> d.x.merge(0)), "throws.IllegalStateException");
    }

    private static void pick() {
        Bench.about("promise 19");
        Bench b = forked();
        b.in("B1", "one").x.commit();
        b.in("B2", "two").x.commit();
        b.x.go(1);
        due("pick(3)", b.x.pick(3), 0);
        due("B1 B2", b.shows("B1") + b.shows("B2"), "nothing'two");
        due("no MERGE", b.x.sheet(-1, 3), -1);
        due("picks", b.x.total(8), 1);
        due("steps", b.x.total(4), 0);
        due("pick(2)", b.x.pick(2), 0);
        due("commit", b.x.commit(), 4);
        due("parents", b.x.sheet(4, 2) + " " + b.x.sheet(4, 3), "1 -1");
        due("pick(0)", Bench.of(() -> b.x.pick(0)), "throws.NoSuchElementException");
        due("pick(-1)", Bench.of(() -> b.x.pick(-1)), "throws.NoSuchElementException");
        due("pick(5)", Bench.of(() -> b.x.pick(5)), "throws.NoSuchElementException");
        b.in("B1", "x").in("B2", "y");
        due("pick(3)", b.x.pick(3), 1);
        b.x.choose(0, true);
        due("pick(2)", b.x.pick(2), 1);
        due("the CONFLICTS of before are gone", b.x.conflict(0, 1) + " " + b.x.conflict(1, 0), "1 -1");
    }

    private static void twoHundred() {
        Bench.about("promises 18 and 19, 200");
        Bench b = forked();
        b.in("B1", "x").x.commit();
        b.x.go(1);
        for (int i = 1; i <= 200; i++) {
            b.x.pick(2);
        }
        due("picks", b.x.total(8), 200);
        due("pick", Bench.of(() -> b.x.pick(2)), "throws.UnsupportedOperationException");
        due("pick(9)", Bench.of(() -> b.x.pick(9)), "throws.NoSuchElementException");
        due("merge", Bench.of(() -> b.x.merge(0)), "throws.UnsupportedOperationException");
        due("merge of an ancestor", Bench.of(() -> b.x.merge(1)), "throws.UnsupportedOperationException");
        due("merge(2)", Bench.of(() -> b.x.merge(2)), "throws.NoSuchElementException");
        due("picks", b.x.total(8), 200);
    }

    /** One CONFLICT of each kind, by O: row 5, column 6, cell A1. */
    private static Bench three() {
        Bench b = new Bench();
        b.x.branch(2);
        b.in("A5", "kept").in("A1", "ours").x.commit();
        b.in("F2", "changed").x.commit();
        b.x.go(2);
        b.x.remove(0, 5);
        b.x.remove(1, 6);
        b.in("A1", "theirs").x.commit();
        b.x.go(0);
        due("merge", b.x.merge(2), 3);
        return b;
    }

    private static void conflict() {
        Bench.about("promise 20");
        Bench b = three();
        String[] due = {"1 5 0 0 -1", "2 0 6 0 -1", "3 1 1 0 -1"};
        for (int i = 0; i < 3; i++) {
            due("conflict " + i, b.x.conflict(i, 0) + " " + b.x.conflict(i, 1) + " " + b.x.conflict(i, 2) + " " + b.x.conflict(i, 3) + " "
                    + b.x.conflict(i, 4), due[i]);
        }
        due("conflict(3, 0)", b.x.conflict(3, 0), -1);
        due("conflict(-1, 0)", b.x.conflict(-1, 0), -1);
        due("conflict(0, -1)", b.x.conflict(0, -1), -1);
        b.x.insert(0, 1);
        b.x.insert(1, 1);
        due("where they are now", b.x.conflict(0, 1) + " " + b.x.conflict(1, 2) + " " + b.x.conflict(2, 1) + " " + b.x.conflict(2, 2), "6 7 2 2");
        b.x.remove(1, 2);
        due("the column is not there", b.x.conflict(2, 1) + " " + b.x.conflict(2, 2), "2 0");
        b.x.choose(2, true);
        due("settled", b.x.conflict(2, 3) + " " + b.x.conflict(0, 3), "1 0");
        b.x.choose(0, false);
        b.x.choose(1, false);
        b.x.commit();
        due("behind commit", b.x.conflict(0, 0), -1);
        due("of a new object", new SheetBranches().conflict(0, 0), -1);
    }

    private static void choose() {
        Bench.about("promise 21");
        Bench b = three();
        due("choose(3)", Bench.of(() -> b.x.choose(3, true)), "throws.IndexOutOfBoundsException");
        due("choose(-1)", Bench.of(() -> b.x.choose(-1, true)), "throws.IndexOutOfBoundsException");
        due("choose(0, false)", b.x.choose(0, false), 2);
        due("it stays", b.x.sheet(-1, 0), 8);
        due("choose(0, true)", b.x.choose(0, true), 2);
        due("it goes", b.x.sheet(-1, 0), 7);
        due("choose(0, true)", b.x.choose(0, true), 2);
        due("it is no more", b.x.sheet(-1, 0), 7);
        due("choose(1, true)", b.x.choose(1, true), 1);
        due("it goes", b.x.sheet(-1, 1), 5);
        due("choose(2, true)", b.x.choose(2, true), 0);
        due("A1", b.shows("A1"), "'theirs");
        due("choose(2, false)", b.x.choose(2, false), 0);
        due("A1", b.shows("A1"), "'ours");
        due("steps", b.x.total(4), 6);
        b.x.undo();
        b.x.undo();
        due("A1", b.shows("A1"), "'ours");
        due("still settled", b.x.total(3), 0);
        b.x.undo();
        due("there again", b.x.sheet(-1, 1), 6);
        b.in("A1", "else").x.choose(2, false);
        due("O's as it was", b.shows("A1"), "'ours");
        b.x.remove(0, 1);
        due("choose of a cell that is no more", b.x.choose(2, true), 0);
        due("A1", b.shows("A1"), "nothing");
        for (int i = 0; i < 5; i++) {
            b.x.remove(0, b.x.conflict(0, 1) == 1 ? 2 : 1);
        }
        while (b.x.sheet(-1, 1) > 1) {
            b.x.remove(1, 1);
        }
        due("the only column", b.x.choose(1, true), 0);
        due("it stays", b.x.sheet(-1, 1), 1);
        due("commit", b.x.commit(), 4);
        due("choose behind commit", Bench.of(() -> b.x.choose(0, true)), "throws.IndexOutOfBoundsException");
        Bench c = three();
        c.x.drop();
        c.x.go(2);
        due("merge the other way", c.x.merge(0), 3);
        due("rows and columns are there", c.x.sheet(-1, 0) + " " + c.x.sheet(-1, 1), "8 6");
        due("choose(0, true)", c.x.choose(0, true), 2);
        due("it stays", c.x.sheet(-1, 0), 8);
        due("choose(0, false)", c.x.choose(0, false), 2);
        due("it goes", c.x.sheet(-1, 0), 7);
        due("choose(2, true)", c.x.choose(2, true), 1);
        due("A1", c.shows("A1"), "'ours");
    }

    private static void base() {
        Bench.about("promise 22");
        Bench b = forked();
        b.x.commit();
        b.x.go(1);
        b.x.commit();
        due("base(2, 3)", b.x.base(2, 3), 1);
        due("base(3, 2)", b.x.base(3, 2), 1);
        due("base(3, 3)", b.x.base(3, 3), 3);
        due("base(0, 3)", b.x.base(0, 3), 0);
        b.x.merge(0);
        b.x.commit();
        due("base(4, 2)", b.x.base(4, 2), 2);
        due("base(3, 4)", b.x.base(3, 4), 3);
        b.x.go(0);
        b.x.merge(1);
        due("base of a merge", b.x.base(b.x.commit(), 4), 4);
        due("base(-1, 0)", b.x.base(-1, 0), -1);
        due("base(0, -1)", b.x.base(0, -1), -1);
        due("base(6, 0)", b.x.base(6, 0), -1);
        due("base(0, 99)", b.x.base(0, 99), -1);
    }

    private static void diff() {
        Bench.about("promises 23 and 24");
        Bench b = forked();
        due("difference ahead of any", b.x.difference(0, 0), -1);
        due("diff of the same", b.x.diff(1, -1), 0);
        b.in("B1", "=A2").x.remove(0, 4);
        b.x.insert(0, 2);
        b.x.remove(1, 6);
        b.x.insert(1, 1);
        b.x.move(0, 8, 1);
        b.x.move(1, 2, 3);
        b.in("A3", "in a new column").in("B4", "1").in("C4", "r2").in("C5", "3");
        String[] due = {"1 4 0", "2 3 0", "3 0 6", "4 0 1", "5 0 0", "6 0 0", "7 2 2", "7 4 2", "7 5 3"};
        due("diff(1, -1)", b.x.diff(1, -1), due.length);
        for (int i = 0; i < due.length; i++) {
            due("difference " + i, b.x.difference(i, 0) + " " + b.x.difference(i, 1) + " " + b.x.difference(i, 2), due[i]);
        }
        due("difference(9, 0)", b.x.difference(9, 0), -1);
        due("difference(-1, 0)", b.x.difference(-1, 0), -1);
        due("difference(0, 3)", b.x.difference(0, 3), -1);
        due("difference(0, -1)", b.x.difference(0, -1), -1);
        due("diff(1, 9)", Bench.of(() -> b.x.diff(1, 9)), "throws.NoSuchElementException");
        due("diff(-2, 0)", Bench.of(() -> b.x.diff(-2, 0)), "throws.NoSuchElementException");
        due("the latest that did not throw", b.x.difference(0, 0), 1);
        due("diff(-1, 1)", b.x.diff(-1, 1), due.length);
        due("the other way", b.x.difference(0, 0) + " " + b.x.difference(0, 1) + " " + b.x.difference(1, 0) + " " + b.x.difference(1, 1), "1 3 2 4");
        due("places of the second", b.x.difference(6, 1) + " " + b.x.difference(6, 2), "1 2");
        Bench c = new Bench().in("A1", "=B1").in("A2", "=SUM(1,2)").in("A3", "=A1@0").in("A4", "1");
        c.x.commit();
        String[][] unlike = {{"A1", "=$B1"}, {"A1", "=B2"}, {"A1", "=B1@0"}, {"A2", "=SUM(1,3)"}, {"A2", "=SUM(1+2)"}, {"A2", "3"}, {"A3", "=A1@1"},
            {"A3", "=A1"}, {"A4", "'1"}, {"A4", "=1"}, {"A4", "TRUE"}, {"A4", ""}};
        for (String[] u : unlike) {
            c.in(u[0], u[1]);
            due("unlike " + u[1], c.x.diff(1, -1), 1);
            c.x.undo();
        }
        String[][] alike = {{"A1", "= (B1)"}, {"A2", "=SUM( 01 ,2)"}, {"A3", "=A01@00"}, {"A4", "001"}};
        for (String[] u : alike) {
            c.in(u[0], u[1]);
            due("alike " + u[1], c.x.diff(1, -1), 0);
        }
    }

    private static void blame() {
        Bench.about("promise 25");
        Bench b = forked();
        b.in("A1", "main").x.commit();
        b.x.go(1);
        b.in("A2", "other").x.insert(0, 9);
        b.x.commit();
        b.x.merge(0);
        due("ahead of commit: not alike", b.x.blame(1, 1), -1);
        b.x.commit();
        due("by the other parent", b.x.blame(1, 1), 2);
        due("by the parent", b.x.blame(2, 1), 3);
        due("by both", b.x.blame(3, 1), 1);
        due("since the beginning", b.x.blame(3, 2), 0);
        due("a new row", b.x.blame(9, 1), 3);
        b.in("A3", "x").x.insert(0, 1);
        due("not alike", b.x.blame(4, 1), -1);
        due("a row that the HEAD has not", b.x.blame(1, 1), -1);
        due("its place does not count", b.x.blame(3, 1), 3);
        b.in("A4", "r3");
        due("alike again", b.x.blame(4, 1), 1);
        int[][] none = {{0, 1}, {1, 0}, {11, 1}, {1, 7}};
        for (int[] n : none) {
            due("blame of no cell", Bench.of(() -> b.x.blame(n[0], n[1])), "throws.IndexOutOfBoundsException");
        }
    }

    private static void sheet() {
        Bench.about("promise 26");
        Bench b = forked();
        b.x.insert(0, 1);
        b.x.insert(1, 1);
        b.x.commit();
        b.x.go(1);
        b.x.remove(0, 1);
        b.x.commit();
        b.x.merge(0);
        String[] due = {"8 6 -1 -1 -1", "8 6 0 -1 -1", "9 7 1 -1 -1", "7 6 1 -1 -1"};
        for (int v = 0; v < due.length; v++) {
            due("sheet " + v, b.x.sheet(v, 0) + " " + b.x.sheet(v, 1) + " " + b.x.sheet(v, 2) + " " + b.x.sheet(v, 3) + " " + b.x.sheet(v, 4), due[v]);
        }
        due("the working sheet", b.x.sheet(-1, 0) + " " + b.x.sheet(-1, 1) + " " + b.x.sheet(-1, 2) + " " + b.x.sheet(-1, 3), "8 7 3 2");
        due("sheet(4, 0)", b.x.sheet(4, 0), -1);
        due("sheet(-2, 0)", b.x.sheet(-2, 0), -1);
        due("sheet(-1, -1)", b.x.sheet(-1, -1), -1);
        due("sheet(-1, 4)", b.x.sheet(-1, 4), -1);
    }

    private static void total() {
        Bench.about("promise 31");
        Bench b = three();
        b.in("B1", "=1+1").x.undo();
        b.tape("abc");
        int[] due = {4, 0, 2, 3, 0, 1, 3, 3, 1, 1, 2, -1, 3, -1, -1, -1, -1};
        for (int i = 0; i < due.length; i++) {
            due("total(" + i + ")", b.x.total(i), due[i]);
        }
        due("total(-1)", b.x.total(-1), -1);
        due("total(99)", b.x.total(99), -1);
        b.x.drop();
        due("total(9)", b.x.total(9), 1);
        b.x.remove(0, 1);
        due("total(9)", b.x.total(9), 0);
        b.x.undo();
        due("total(9)", b.x.total(9), 1);
    }
}
