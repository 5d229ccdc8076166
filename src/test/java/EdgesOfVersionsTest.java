import java.util.function.LongSupplier;

/** Each sentence that names a boundary case of versions, branches, MERGE, PICK, CONFLICTS and what is told of them. */
public final class EdgesOfVersionsTest {
    private static final int MOST = Integer.MAX_VALUE;
    private static final int LEAST = Integer.MIN_VALUE;
    private static final String NO_INDEX = "throws.IndexOutOfBoundsException";
    private static final String NO_STATE = "throws.IllegalStateException";
    private static final String NO_ELEMENT = "throws.NoSuchElementException";
    private static final String NO_SUPPORT = "throws.UnsupportedOperationException";

    public static void main(String[] args) {
        beginning();
        versionsNeverChange();
        commit();
        commitWithConflicts();
        branch();
        go();
        goWhenNotLike();
        drop();
        merge();
        mergeRefused();
        mergeTooMany();
        twoHundred();
        pick();
        bases();
        rowsThatCome();
        changedRows();
        changedColumns();
        orders();
        newcomers();
        cells();
        cellsWithoutBase();
        numbersOfConflicts();
        settled();
        settledWithoutEffect();
        conflict();
        choose();
        base();
        diff();
        difference();
        blame();
        sheet();
        total();
        Bench.finish();
    }

    private static void due(String call, Object got, Object want) {
        Bench.due(call, got, want);
    }

    private static String rows(Bench b) {
        return b.column('A', 1, b.x.sheet(-1, 0)).replace("'", "");
    }

    private static String columns(Bench b) {
        StringBuilder all = new StringBuilder();
        for (int c = 0; c < b.x.sheet(-1, 1); c++) {
            all.append(c > 0 ? " " : "").append(b.shows((char) ('A' + c) + "1").replace("'", ""));
        }
        return all.toString();
    }

    private static String conflictOf(Bench b, int i) {
        return b.x.conflict(i, 0) + " " + b.x.conflict(i, 1) + " " + b.x.conflict(i, 2) + " " + b.x.conflict(i, 3);
    }

    private static String differenceOf(Bench b, int i) {
        return b.x.difference(i, 0) + " " + b.x.difference(i, 1) + " " + b.x.difference(i, 2);
    }

    /** Column A has 1 .. 8, row 1 has a .. f behind it: version 1, with branch 1 there. */
    private static Bench forked() {
        Bench b = new Bench();
        for (int r = 1; r <= 8; r++) {
            b.in("A" + r, String.valueOf(r));
        }
        for (char c = 'B'; c <= 'F'; c++) {
            b.in(c + "1", String.valueOf((char) (c + 32)));
        }
        b.x.commit();
        b.x.branch(1);
        return b;
    }

    private static Bench commitAndGo(Bench b, int branch) {
        b.x.commit();
        b.x.go(branch);
        return b;
    }

    private static void beginning() {
        Said.term(6, "Version 0 has 8 rows and 6 columns, all cells nothing; the working sheet is like it.");
        Bench b = new Bench();
        for (int v = -1; v <= 0; v++) {
            due("rows, columns of " + v, b.x.sheet(v, 0) + " " + b.x.sheet(v, 1), "8 6");
            due("cells of " + v, b.contents(v), (":nothing|".repeat(6) + "/").repeat(8));
        }
        due("total(9)", b.x.total(9), 1);
        due("diff(0, -1)", b.x.diff(0, -1), 0);

        Said.term(6, "BRANCHES 0 .. 5 are at a version, or are not there; 0 is at 0, and is the one that is GONE TO.");
        due("total(1) total(2)", b.x.total(1) + " " + b.x.total(2), "0 0");
        String at = "";
        for (int i = 10; i <= 15; i++) {
            at += b.x.total(i) + " ";
        }
        due("total(10 .. 15)", at, "0 -1 -1 -1 -1 -1 ");
    }

    private static void versionsNeverChange() {
        Said.term(1, "VERSIONS 0, 1, .. (at most 40) are sheets that never change.");
        Bench b = new Bench().in("A1", "1").in("B1", "=A1+1").in("C1", "=SUM(A1:B1)");
        b.x.commit();
        String one = b.contents(1);
        String zero = b.contents(0);
        b.in("A1", "5").x.erase(1, 1, 1, 2);
        b.x.insert(0, 1);
        b.x.insert(1, 1);
        b.x.move(0, 1, 8);
        b.x.copy(1, 1, 8, 6, 2, 2);
        b.x.sort(2, 1, 9, true);
        b.x.remove(0, 1);
        b.x.remove(1, 2);
        b.x.commit();
        due("version 1", b.contents(1), one);
        due("version 0", b.contents(0), zero);
        for (int v = 3; v <= 39; v++) {
            due("commit", b.x.commit(), v);
        }
        due("commit", Bench.of(b.x::commit), NO_SUPPORT);
        due("total(0)", b.x.total(0), 40);
    }

    private static void commit() {
        Said.promise(14, "COMMIT: the new version's number.");
        Bench b = new Bench();
        due("commit of what is like the HEAD", b.x.commit(), 1);
        due("commit", b.x.commit(), 2);

        Said.term(6, "A COMMIT makes the working sheet the next version; its PARENT is the HEAD, its OTHER PARENT the version of a MERGE that is under way (which ends with it); the branch is at it then.");
        Bench c = forked();
        commitAndGo(c.in("B2", "main"), 1).in("B3", "other").x.commit();
        due("merge(0)", c.x.merge(0), 0);
        due("under way", c.x.sheet(-1, 2) + " " + c.x.sheet(-1, 3), "3 2");
        due("commit", c.x.commit(), 4);
        due("parents", c.x.sheet(4, 2) + " " + c.x.sheet(4, 3), "3 2");
        due("the MERGE has ended", c.x.sheet(-1, 2) + " " + c.x.sheet(-1, 3), "4 -1");
        due("branches", c.x.total(10) + " " + c.x.total(11), "2 4");
        due("commit", c.x.commit(), 5);
        due("parents", c.x.sheet(5, 2) + " " + c.x.sheet(5, 3), "4 -1");

        Said.promise(14, "UnsupportedOperationException: there are 40.");
        for (int v = 6; v <= 39; v++) {
            due("commit", c.x.commit(), v);
        }
        String before = c.everything();
        due("commit", Bench.of(c.x::commit), NO_SUPPORT);
        due("nothing is changed", c.everything(), before);

        Said.promise(14, "(Steps stay.)");
        Bench d = new Bench().in("A1", "1").in("A1", "2").in("A1", "3");
        d.x.undo();
        d.x.commit();
        due("total(4) total(5)", d.x.total(4) + " " + d.x.total(5), "2 1");
        due("undo", d.x.undo(), 1);
        due("A1", d.shows("A1") + d.shows(1, "A1"), "12");
    }

    private static void commitWithConflicts() {
        Said.promise(14, "IllegalStateException: a CONFLICT is not settled");
        Bench b = forked();
        commitAndGo(b.in("A1", "main").in("A2", "main"), 1).in("A1", "other").in("A2", "other").x.commit();
        due("merge(0)", b.x.merge(0), 2);
        due("commit", Bench.of(b.x::commit), NO_STATE);
        due("choose(1, true)", b.x.choose(1, true), 1);
        due("commit", Bench.of(b.x::commit), NO_STATE);

        Said.term(6, "As long as one is not settled there is no COMMIT.");
        due("total(0)", b.x.total(0), 4);
        due("choose(0, false)", b.x.choose(0, false), 0);
        b.x.undo();
        due("commit, also when that is undone", Bench.of(b.x::commit), 4);
    }

    private static void branch() {
        Said.promise(15, "A branch is at the HEAD from now on: that version.");
        Bench b = new Bench();
        due("branch(1)", b.x.branch(1), 0);
        b.in("A1", "x").x.commit();
        due("branch(5)", b.x.branch(5), 1);
        b.in("A1", "y");
        due("branch(2), not of the working sheet", b.x.branch(2), 1);
        due("branches", b.x.total(10) + " " + b.x.total(11) + " " + b.x.total(12) + " " + b.x.total(13) + " " + b.x.total(14) + " " + b.x.total(15), "1 0 1 -1 -1 1");
        due("total(1) total(4)", b.x.total(1) + " " + b.x.total(4), "0 2");

        Said.promise(15, "IndexOutOfBoundsException: there is no such number");
        int[] none = {-1, 6, MOST, LEAST};
        for (int n : none) {
            due("branch(" + n + ")", Bench.of(() -> b.x.branch(n)), NO_INDEX);
        }

        Said.promise(15, "IllegalStateException: it is there already.");
        int[] there = {0, 1, 2, 5};
        for (int n : there) {
            due("branch(" + n + ")", Bench.of(() -> b.x.branch(n)), NO_STATE);
        }
    }

    private static void go() {
        Said.promise(16, "GO to a branch: the working sheet is like its version: that.");
        Bench b = forked();
        b.in("B1", "main").x.commit();
        due("go(1)", b.x.go(1), 1);
        due("like it", b.x.total(9) + " " + b.x.diff(1, -1) + " " + b.x.total(1) + " " + b.x.total(2), "1 0 1 1");
        due("go(1) again", b.x.go(1), 1);
        due("go(0)", b.x.go(0), 2);
        due("like it", b.x.total(9) + " " + b.x.diff(2, -1), "1 0");

        Said.promise(16, "IndexOutOfBoundsException: there is no such number");
        int[] none = {-1, 6, MOST, LEAST};
        for (int n : none) {
            due("go(" + n + ")", Bench.of(() -> b.x.go(n)), NO_INDEX);
        }

        Said.promise(16, "NoSuchElementException: it is not there");
        for (int n = 2; n <= 5; n++) {
            int branch = n;
            due("go(" + n + ")", Bench.of(() -> b.x.go(branch)), NO_ELEMENT);
        }
    }

    private static void goWhenNotLike() {
        Said.promise(16, "IllegalStateException: a MERGE is under way, a CONFLICT is not settled, or the working sheet is not like the HEAD (rows, columns, their order, contents alike).");
        Bench b = forked();
        LongSupplier[] acts = {() -> b.x.insert(0, 9), () -> b.x.insert(1, 7), () -> b.x.remove(0, 8), () -> b.x.remove(1, 6), () -> b.x.move(0, 7, 8), () -> b.x.move(1, 5, 6),
            () -> Long.parseLong(b.enter("A1", "x")), () -> Long.parseLong(b.enter("F8", "'")), () -> b.x.erase(1, 1, 1, 1)};
        for (int i = 0; i < acts.length; i++) {
            acts[i].getAsLong();
            due("total(9) behind act " + i, b.x.total(9), 0);
            due("go behind act " + i, Bench.of(() -> b.x.go(1)), NO_STATE);
            due("go to where it is, behind act " + i, Bench.of(() -> b.x.go(0)), NO_STATE);
            b.x.undo();
        }
        b.in("A1", "x").in("A1", "001");
        due("total(9), alike again", b.x.total(9), 1);
        due("go(1)", b.x.go(1), 1);
        b.in("A2", "other").x.commit();
        b.x.go(0);
        due("merge(1)", b.x.merge(1), 0);
        b.in("A2", "2");
        due("like the HEAD in a MERGE", b.x.total(9), 1);
        due("go in a MERGE", Bench.of(() -> b.x.go(1)), NO_STATE);
        b.x.drop();
        b.in("A2", "main").x.commit();
        due("pick(2)", b.x.pick(2), 1);
        due("like the HEAD with a CONFLICT", b.x.total(9), 1);
        due("go with a CONFLICT", Bench.of(() -> b.x.go(1)), NO_STATE);
        b.x.choose(0, false);
        due("go with all settled", b.x.go(1), 2);
    }

    private static void drop() {
        Said.promise(17, "DROP: the working sheet is like the HEAD, no MERGE is under way, no CONFLICTS are there: the HEAD.");
        Bench b = new Bench();
        due("drop of nothing", b.x.drop(), 0);
        Bench c = forked();
        commitAndGo(c.in("A1", "main"), 1).in("A1", "other").x.commit();
        due("merge(0)", c.x.merge(0), 1);
        c.in("B2", "x").x.insert(0, 1);
        c.x.undo();
        due("drop", c.x.drop(), 3);
        due("like the HEAD", c.x.total(9) + " " + c.x.diff(3, -1), "1 0");
        due("no MERGE", c.x.sheet(-1, 3), -1);
        due("no CONFLICTS", c.x.total(3) + " " + c.x.conflict(0, 0), "0 -1");
        due("choose", Bench.of(() -> c.x.choose(0, true)), NO_INDEX);
        due("steps", c.x.total(4) + " " + c.x.total(5), "0 0");
        due("merge(0) again", c.x.merge(0), 1);
        c.tape("abc");
        due("drop", c.x.drop(), 3);
        due("the tape stays", c.x.total(7), 3);
        due("go(0)", c.x.go(0), 2);
    }

    private static void merge() {
        Said.promise(18, "MERGE of the version at which a branch is: how many CONFLICTS there are; NONE, and nothing is done, if it is an ancestor of the HEAD.");
        Bench b = forked();
        b.in("B1", "main").in("B1", "again").x.undo();
        String before = b.everything();
        due("merge of the HEAD's own branch", b.x.merge(0), -1);
        due("merge of the HEAD by another branch", b.x.merge(1), -1);
        due("nothing is done", b.everything(), before);
        b.x.commit();
        due("merge of the parent", b.x.merge(1), -1);
        b.x.go(1);
        due("merge of a later one", b.x.merge(0), 0);
        due("B1", b.shows("B1"), "'main");
        due("total(8)", b.x.total(8), 1);
        b.x.commit();
        due("merge of the other parent", b.x.merge(0), -1);
        due("total(8)", b.x.total(8), 1);
        commitAndGo(b, 0);
        due("merge of one that has the HEAD as its other parent", b.x.merge(1), 0);

        Said.promise(18, "IndexOutOfBoundsException: there is no such number");
        int[] none = {-1, 6, MOST, LEAST};
        for (int n : none) {
            due("merge(" + n + ")", Bench.of(() -> b.x.merge(n)), NO_INDEX);
        }

        Said.promise(18, "NoSuchElementException: it is not there");
        for (int n = 2; n <= 5; n++) {
            int branch = n;
            due("merge(" + n + ")", Bench.of(() -> b.x.merge(branch)), NO_ELEMENT);
        }
    }

    private static void mergeRefused() {
        Said.promise(18, "IllegalStateException: a MERGE is under way, a CONFLICT is not settled (all these ahead of NONE)");
        Bench b = forked();
        b.x.branch(2);
        commitAndGo(b.in("A1", "main"), 1).in("A2", "other").x.commit();
        due("merge(0)", b.x.merge(0), 0);
        due("merge in a MERGE", Bench.of(() -> b.x.merge(0)), NO_STATE);
        due("merge of an ancestor in a MERGE", Bench.of(() -> b.x.merge(2)), NO_STATE);
        due("merge of itself in a MERGE", Bench.of(() -> b.x.merge(1)), NO_STATE);
        due("pick in a MERGE", Bench.of(() -> b.x.pick(2)), NO_STATE);
        b.x.drop();
        b.in("A1", "ours");
        due("pick(2)", b.x.pick(2), 1);
        due("merge with a CONFLICT", Bench.of(() -> b.x.merge(0)), NO_STATE);
        due("merge of an ancestor with a CONFLICT", Bench.of(() -> b.x.merge(2)), NO_STATE);
        due("pick with a CONFLICT", Bench.of(() -> b.x.pick(2)), NO_STATE);
        b.x.choose(0, true);
        due("merge of an ancestor, all settled", b.x.merge(2), -1);
        due("the CONFLICT is still told", conflictOf(b, 0), "3 1 1 1");
        due("merge, all settled", b.x.merge(0), 0);
        due("it is told no more", b.x.conflict(0, 0), -1);
    }

    /** Two branches from version 0 that each do one act so many times. */
    private static Bench apart(int axis, int place, int times, int otherPlace, int otherTimes, boolean inserts) {
        Bench b = new Bench();
        b.x.branch(1);
        for (int i = 0; i < times; i++) {
            due("act", inserts ? b.x.insert(axis, place) > 0 : b.x.remove(axis, place) > 0, true);
        }
        commitAndGo(b, 1);
        for (int i = 0; i < otherTimes; i++) {
            due("act", inserts ? b.x.insert(axis, otherPlace) > 0 : b.x.remove(axis, otherPlace) > 0, true);
        }
        b.x.commit();
        return b;
    }

    private static void mergeTooMany() {
        Said.promise(18, "or there would be no row or column, or more than 32 rows, 10 columns.");
        int[][] counts = {{0, 12, 12, 32}, {0, 12, 13, 0}, {0, 24, 1, 0}, {0, 24, 24, 0}, {1, 2, 2, 10}, {1, 2, 3, 0}, {1, 4, 4, 0}};
        for (int[] n : counts) {
            Bench b = apart(n[0], 1, n[1], 2, n[2], true);
            String before = b.everything();
            String what = n[1] + " and " + n[2] + " put in along " + n[0];
            due(what, Bench.of(() -> b.x.merge(0)), n[3] == 0 ? NO_STATE : "0");
            due(what, n[3] == 0 ? b.everything().equals(before) : b.x.sheet(-1, n[0]) == n[3], true);
        }
        int[][] fewer = {{0, 4, 3, 1}, {0, 4, 4, 0}, {1, 3, 2, 1}, {1, 3, 3, 0}};
        for (int[] n : fewer) {
            Bench b = apart(n[0], 1, n[1], n[0] == 0 ? 5 : 4, n[2], false);
            String before = b.everything();
            String what = n[1] + " and " + n[2] + " taken out along " + n[0];
            due(what, Bench.of(() -> b.x.merge(0)), n[3] == 0 ? NO_STATE : "0");
            due(what, n[3] == 0 ? b.everything().equals(before) : b.x.sheet(-1, n[0]) == n[3], true);
        }
        Said.promise(19, "UnsupportedOperationException, IllegalStateException: as for merge().");
        Bench many = apart(0, 1, 12, 2, 13, true);
        due("pick of 12 rows to 21", Bench.of(() -> many.x.pick(1)), NO_STATE);
        Bench none = apart(0, 1, 4, 5, 4, false);
        due("pick that leaves no row", Bench.of(() -> none.x.pick(1)), NO_STATE);
        due("total(8)", many.x.total(8) + " " + none.x.total(8), "0 0");
    }

    private static void twoHundred() {
        Said.promise(18, "UnsupportedOperationException: 200 MERGES and PICKS were done");
        Bench b = forked();
        b.x.branch(2);
        commitAndGo(b.in("B2", "x"), 1).in("B3", "y").x.commit();
        for (int i = 1; i <= 100; i++) {
            due("merge of an ancestor does not count", b.x.merge(2) + " " + b.x.total(8), "-1 " + (2 * i - 2));
            b.x.pick(2);
            b.x.drop();
            b.x.merge(0);
            b.x.drop();
        }
        due("merge", Bench.of(() -> b.x.merge(0)), NO_SUPPORT);
        due("merge of an ancestor", Bench.of(() -> b.x.merge(2)), NO_SUPPORT);
        due("merge of one that is not there", Bench.of(() -> b.x.merge(5)), NO_ELEMENT);
        due("pick", Bench.of(() -> b.x.pick(2)), NO_SUPPORT);
        due("pick(0)", Bench.of(() -> b.x.pick(0)), NO_ELEMENT);
        due("total(8)", b.x.total(8), 200);
        Bench c = forked();
        commitAndGo(c.in("B2", "x"), 1).in("B2", "y");
        for (int i = 1; i < 200; i++) {
            c.x.pick(2);
            c.x.choose(0, false);
        }
        due("the 200th", Bench.of(() -> c.x.pick(2)), 1);
        due("the 201st, ahead of a CONFLICT that is not settled", Bench.of(() -> c.x.pick(2)), NO_SUPPORT);
        due("the 201st, ahead of a CONFLICT that is not settled", Bench.of(() -> c.x.merge(0)), NO_SUPPORT);
    }

    private static void pick() {
        Said.promise(19, "NoSuchElementException: there is none such, or it is 0");
        Bench b = forked();
        int[] none = {0, 2, -1, -2, 40, MOST, LEAST};
        for (int n : none) {
            due("pick(" + n + ")", Bench.of(() -> b.x.pick(n)), NO_ELEMENT);
        }

        Said.promise(19, "PICK of a version: how many CONFLICTS there are.");
        due("pick of the HEAD", b.x.pick(1), 0);
        due("total(8)", b.x.total(8), 1);
        due("no MERGE is under way", b.x.sheet(-1, 3), -1);
        b.in("A1", "x").in("A2", "x").in("A3", "");
        due("pick of what was changed since", b.x.pick(1), 2);

        Said.promise(19, "(CONFLICTS of before, all settled, are gone.)");
        b.x.choose(0, false);
        b.x.choose(1, true);
        due("pick(1)", b.x.pick(1), 1);
        due("conflicts", conflictOf(b, 0) + " " + b.x.conflict(1, 0), "3 1 1 0 -1");
        b.x.choose(0, true);
        due("pick(1)", b.x.pick(1), 0);
        due("conflict(0, 0)", b.x.conflict(0, 0), -1);
        due("commit", b.x.commit(), 2);
        due("its parents", b.x.sheet(2, 2) + " " + b.x.sheet(2, 3), "1 -1");
    }

    private static void bases() {
        Said.term(6, "MERGE of a version T (at which another branch is), with the BASE B of T and the HEAD, or PICK of a version T (not 0), with its PARENT as B: of the working sheet O (OURS) and T (THEIRS) come:");
        Bench b = forked();
        b.x.branch(2);
        commitAndGo(b.in("B2", "main"), 1).in("B3", "other").x.commit();
        b.x.merge(0);
        b.in("B4", "merged").x.commit();
        b.x.go(2);
        due("pick(4): what is unlike its PARENT, 3", b.x.pick(4), 0);
        due("B2 B3 B4", b.shows("B2") + b.shows("B3") + b.shows("B4"), "'mainnothing'merged");
        b.x.drop();
        due("merge(1): what is unlike the BASE, 1", b.x.merge(1), 0);
        due("B2 B3 B4", b.shows("B2") + b.shows("B3") + b.shows("B4"), "'main'other'merged");
        b.x.drop();
        b.in("B3", "ours");
        due("merge(1): O is the working sheet, not the HEAD", b.x.merge(1), 1);
        due("B3", b.shows("B3"), "'ours");
        Bench c = forked();
        commitAndGo(c.in("A1", "main"), 1).in("A1", "main").x.commit();
        c.in("A1", "1");
        due("merge(0): B is of the HEAD, not of the working sheet", c.x.merge(0), 0);
        due("A1", c.shows("A1"), "'main");
    }

    private static void rowsThatCome() {
        Said.term(6, "ROWS: those that both have; those that one has, and B has not; those that one has, and B too, if that one CHANGED it");
        Bench b = forked();
        b.x.remove(0, 2);
        b.x.remove(0, 2);
        b.in("A3", "5m").x.insert(0, 7);
        commitAndGo(b.in("A7", "mine"), 1);
        b.in("A2", "2o").x.remove(0, 5);
        b.x.remove(0, 5);
        b.x.insert(0, 7);
        b.in("A7", "other").x.commit();
        due("rows of T", rows(b), "1 2o 3 4 7 8 other");
        due("merge(0)", b.x.merge(0), 2);
        due("rows: 3 and 6 go, 2 and 5 stay", rows(b), "1 2o 4 5m 7 8 other mine");
        due("kind 1", conflictOf(b, 0) + ", " + conflictOf(b, 1), "1 2 0 0, 1 4 0 0");
        b.x.drop();
        b.x.go(0);
        due("merge(1)", b.x.merge(1), 2);
        due("the other way", rows(b), "1 2o 4 5m 7 8 mine other");
    }

    /** Branch 0 takes out a row or column, branch 1 does something to it; how many CONFLICTS of its kind come, and whether it stays. */
    private static void changed(String what, int axis, int place, boolean stays, String... acts) {
        Bench b = forked();
        b.x.remove(axis, place);
        commitAndGo(b, 1);
        for (String act : acts) {
            if (act.equals("insert other")) {
                b.x.insert(1 - axis, 1);
            } else if (act.equals("move it")) {
                b.x.move(axis, place, 1);
            } else if (act.equals("remove other")) {
                b.x.remove(1 - axis, 1);
            } else if (act.equals("insert ahead")) {
                b.x.insert(axis, 1);
            } else {
                b.in(act.substring(0, 2), act.substring(3));
            }
        }
        b.x.commit();
        int before = b.x.sheet(-1, axis);
        due(what + ": conflicts, by O", b.x.merge(0), stays ? 1 : 0);
        due(what + ": kind", b.x.conflict(0, 0), stays ? axis + 1 : -1);
        due(what + ": how many", b.x.sheet(-1, axis), stays ? before : before - 1);
        b.x.drop();
        b.x.go(0);
        due(what + ": conflicts, by T", b.x.merge(1), stays ? 1 : 0);
        due(what + ": how many", b.x.sheet(-1, axis), stays ? before : before - 1);
    }

    private static void changedRows() {
        Said.term(6, "if it is not for all columns that both that one and B have that the contents are alike, or a column that B has not has a content that is not nothing there: this is a CONFLICT of kind 1.");
        changed("as it was", 0, 3, false);
        changed("another content", 0, 3, true, "A3=x");
        changed("a content more, in the last column", 0, 3, true, "F3=x");
        changed("a content less", 0, 3, true, "A3=");
        changed("the same again", 0, 3, false, "A3=x", "A3=003");
        changed("another row", 0, 3, false, "A4=x");
        changed("moved", 0, 3, false, "move it");
        changed("a new column with nothing there", 0, 3, false, "insert other", "A2=x");
        changed("a new column with something there", 0, 3, true, "insert other", "A3=x");
        changed("a new column with the TEXT without bytes there", 0, 3, true, "insert other", "A3='");
        changed("a column less, which had something there", 0, 3, false, "remove other");
        changed("a row ahead", 0, 3, false, "insert ahead");
        changed("at another place", 0, 3, true, "insert ahead", "A4=x");
    }

    private static void changedColumns() {
        Said.term(6, "COLUMNS likewise, kind 2 (changed by the rows that both that one and B have, and by rows that B has not).");
        changed("as it was", 1, 3, false);
        changed("another content", 1, 3, true, "C1=x");
        changed("a content more, in the last row", 1, 3, true, "C8=x");
        changed("a content less", 1, 3, true, "C1=");
        changed("the same again", 1, 3, false, "C1=x", "C1='c");
        changed("another column", 1, 3, false, "D1=x");
        changed("moved", 1, 3, false, "move it");
        changed("a new row with nothing there", 1, 3, false, "insert other", "B1=x");
        changed("a new row with something there", 1, 3, true, "insert other", "C1=0");
        changed("a row less, which had something there", 1, 3, false, "remove other");
        changed("a column ahead", 1, 3, false, "insert ahead");
        changed("at another place", 1, 3, true, "insert ahead", "D1=x");
    }

    private static void orders() {
        Said.term(6, "If O and B have the rows that O, T and B have all in the same order, the order is as in T, else as in O");
        Bench b = forked();
        b.x.move(0, 1, 8);
        commitAndGo(b, 1).in("F8", "x").x.commit();
        due("merge(0)", b.x.merge(0), 0);
        due("O as in B: T's", rows(b), "2 3 4 5 6 7 8 1");
        b.x.drop();
        b.x.move(0, 8, 1);
        due("merge(0)", b.x.merge(0), 0);
        due("O has another order: O's", rows(b), "8 1 2 3 4 5 6 7");
        b.x.drop();
        b.x.go(0);
        due("merge(1)", b.x.merge(1), 0);
        due("O has another order, T has not", rows(b), "2 3 4 5 6 7 8 1");
        Bench c = forked();
        c.x.remove(0, 4);
        commitAndGo(c.in("F1", "x"), 1);
        c.x.move(0, 4, 1);
        due("merge(0)", c.x.merge(0), 0);
        due("O moved one that T has not", rows(c), "1 2 3 5 6 7 8");
        Bench d = forked();
        d.x.move(0, 7, 2);
        d.x.remove(0, 5);
        commitAndGo(d, 1);
        d.x.move(0, 4, 1);
        d.in("E4", "x");
        due("merge(0)", d.x.merge(0), 0);
        due("the order of the others is as in B: T's", rows(d), "1 7 2 3 5 6 8");
        Bench e = forked();
        e.x.insert(0, 1);
        commitAndGo(e.in("A1", "new"), 1);
        due("pick(2)", e.x.pick(2), 0);
        e.x.move(0, 1, 5);
        due("rows of O", rows(e), "1 2 3 4 new 5 6 7 8");
        due("merge(0)", e.x.merge(0), 0);
        due("one that B has not does not count, and stands as in T", rows(e), "new 1 2 3 4 5 6 7 8");
        Bench f = forked();
        f.x.move(1, 1, 6);
        commitAndGo(f, 1).in("F8", "x").x.commit();
        due("merge(0)", f.x.merge(0), 0);
        due("columns likewise: T's", columns(f), "b c d e f 1");
        f.x.drop();
        f.x.move(1, 2, 1);
        f.x.merge(0);
        due("columns likewise: O's", columns(f), "b 1 c d e f");
    }

    private static void newcomers() {
        Said.term(6, "the rows that this one has not come in, in the other one's order, each right behind the row that is next ahead of it there among those that are in by then (at the beginning, if there is none).");
        Bench b = forked();
        b.x.insert(0, 1);
        b.in("A1", "m1").x.insert(0, 2);
        b.in("A2", "m2").x.insert(0, 11);
        b.in("A11", "m9").x.insert(0, 5);
        commitAndGo(b.in("A5", "m3"), 1);
        b.x.insert(0, 1);
        b.in("A1", "o1").x.insert(0, 10);
        b.in("A10", "o9").x.insert(0, 4);
        b.in("A4", "o3").x.commit();
        due("rows of O", rows(b), "o1 1 2 o3 3 4 5 6 7 8 o9");
        due("merge(0)", b.x.merge(0), 0);
        due("T leads, O's come in", rows(b), "o1 m1 m2 1 2 o3 m3 3 4 5 6 7 8 o9 m9");
        b.x.drop();
        b.x.move(0, 9, 10);
        due("merge(0)", b.x.merge(0), 0);
        due("O leads, T's come in", rows(b), "m1 m2 o1 1 2 m3 o3 3 4 5 6 8 m9 7 o9");
        Bench c = forked();
        c.x.insert(0, 4);
        c.in("A4", "new");
        commitAndGo(c, 1);
        c.x.remove(0, 3);
        c.x.remove(0, 2);
        due("merge(0)", c.x.merge(0), 0);
        due("the row next ahead of it that is in", rows(c), "1 new 4 5 6 7 8");
        Bench d = forked();
        d.x.insert(0, 2);
        d.in("A2", "new");
        commitAndGo(d, 1);
        d.x.move(0, 1, 8);
        due("merge(0)", d.x.merge(0), 0);
        due("behind it where it is now", rows(d), "2 3 4 5 6 7 8 1 new");
        Bench e = forked();
        e.x.insert(1, 1);
        commitAndGo(e.in("A1", "m"), 1);
        e.x.insert(1, 7);
        e.in("G1", "o").x.move(1, 1, 2);
        due("merge(0)", e.x.merge(0), 0);
        due("columns likewise", columns(e), "m b 1 c d e f o");
    }

    private static void cells() {
        Said.term(6, "CELLS: where only one of O and T has both row and column: as there; where none has (a row of one, a column of the other one): nothing; where both have: O's, if T's is alike to B's, or O's to T's; T's, if O's is alike to B's; else O's, and this is a CONFLICT of kind 3.");
        Bench b = forked();
        b.x.insert(0, 9);
        commitAndGo(b.in("A9", "row").in("F9", "row").in("B2", "T").in("B3", "both").in("B4", "T").in("A5", "T").in("A6", ""), 1);
        b.x.insert(1, 7);
        b.in("G1", "column").in("G8", "column").in("C2", "O").in("B3", "both").in("B4", "O").in("A5", "").in("A6", "O");
        due("merge(0)", b.x.merge(0), 3);
        due("of T alone", b.shows("A9") + b.shows("F9"), "'row'row");
        due("of O alone", b.shows("G1") + b.shows("G8"), "'column'column");
        due("of none", b.shows("G9"), "nothing");
        due("T's, where O is as B", b.shows("B2"), "'T");
        due("O's, where T is as B", b.shows("C2"), "'O");
        due("alike in both", b.shows("B3"), "'both");
        due("else O's", b.shows("B4") + b.shows("A5") + b.shows("A6"), "'Onothing'O");
        due("conflicts", conflictOf(b, 0) + ", " + conflictOf(b, 1) + ", " + conflictOf(b, 2), "3 4 2 0, 3 5 1 0, 3 6 1 0");
        Bench c = forked();
        c.in("B2", "=A1").x.commit();
        c.x.insert(0, 1);
        commitAndGo(c, 1).in("B2", "=A1");
        due("merge(0), FORMULAS that mean the same", c.x.merge(0), 0);
        due("at its place", c.writes("B3"), "=A2");
    }

    private static void cellsWithoutBase() {
        Said.term(6, "(B's content is nothing where B has not the row or column.)");
        Bench b = new Bench();
        b.x.insert(0, 9);
        b.x.insert(1, 7);
        b.in("A9", "new").in("B9", "new").in("G1", "new").in("G2", "new").x.commit();
        due("sheet(0, 0)", b.x.sheet(0, 0), 8);
        b.in("A9", "ours").in("B9", "").in("C9", "ours").in("G1", "ours").in("G2", "").in("G3", "ours");
        due("pick(1)", b.x.pick(1), 2);
        due("conflicts", conflictOf(b, 0) + ", " + conflictOf(b, 1), "3 1 7 0, 3 9 1 0");
        due("T's, where O's is nothing as B's", b.shows("B9") + b.shows("G2"), "'new'new");
        due("O's, where T's is nothing as B's", b.shows("C9") + b.shows("G3"), "'ours'ours");
        due("else O's", b.shows("A9") + b.shows("G1"), "'ours'ours");
    }

    /** CONFLICTS of each kind: rows 2 and 5, columns C and E, cells A1 and A8. */
    private static Bench sixConflicts() {
        Bench b = forked();
        b.in("B2", "theirs").in("E1", "theirs").in("A1", "theirs").in("A8", "theirs").x.remove(0, 5);
        b.x.remove(1, 3);
        commitAndGo(b, 1);
        b.in("A5", "ours").in("C1", "ours").in("A1", "ours").in("A8", "ours").x.remove(0, 2);
        b.x.remove(1, 5);
        b.x.commit();
        due("merge(0)", b.x.merge(0), 6);
        return b;
    }

    private static void numbersOfConflicts() {
        Said.term(6, "CONFLICTS are numbered from 0 on: rows, by their places; columns; cells, row by row.");
        Bench b = sixConflicts();
        String[] due = {"1 2 0 0", "1 5 0 0", "2 0 3 0", "2 0 5 0", "3 1 1 0", "3 8 1 0"};
        for (int i = 0; i < due.length; i++) {
            due("conflict " + i, conflictOf(b, i), due[i]);
        }
        Bench c = forked();
        for (int r = 1; r <= 8; r++) {
            for (char col = 'A'; col <= 'F'; col++) {
                c.in(col + "" + r, "m");
            }
        }
        commitAndGo(c, 1);
        for (int r = 1; r <= 8; r++) {
            for (char col = 'A'; col <= 'F'; col++) {
                c.in(col + "" + r, "o");
            }
        }
        due("merge(0), all cells", c.x.merge(0), 48);
        due("row by row", conflictOf(c, 0) + ", " + conflictOf(c, 5) + ", " + conflictOf(c, 6) + ", " + conflictOf(c, 47), "3 1 1 0, 3 1 6 0, 3 2 1 0, 3 8 6 0");
        due("total(3)", c.x.total(3), 48);
        Bench d = new Bench();
        for (int n = 9; n <= 32; n++) {
            d.x.insert(0, n);
        }
        for (int n = 7; n <= 10; n++) {
            d.x.insert(1, n);
        }
        d.x.commit();
        d.x.branch(1);
        commitAndGo(filled(d, "m"), 1);
        due("merge(0), all cells of the greatest sheet", filled(d, "o").x.merge(0), 320);
        due("the last ones", conflictOf(d, 319) + ", " + conflictOf(d, 310) + ", " + d.x.conflict(320, 0), "3 32 10 0, 3 32 1 0, -1");
        due("choose(319, true)", d.x.choose(319, true), 319);
        due("J32", d.shows("J32"), "'m");
    }

    /** All cells of 32 rows and 10 columns have a text. */
    private static Bench filled(Bench b, String text) {
        b.in("A1", text);
        int[] widths = {1, 2, 4, 2};
        int width = 1;
        for (int more : widths) {
            b.x.copy(1, 1, 1, more, 1, width + 1);
            width += more;
        }
        for (int height = 1; height < 32; height *= 2) {
            b.x.copy(1, 1, height, 10, height + 1, 1);
        }
        return b;
    }

    private static void settled() {
        Said.term(6, "kind 1 and 2: the row or column goes, if it is the other one that had it (for theirs, if O had it; not for theirs, if T had it); else it stays.");
        boolean[] sides = {true, false};
        for (boolean theirs : sides) {
            Bench b = sixConflicts();
            due("choose(0)", b.x.choose(0, theirs), 5);
            due("row 2, of T", b.x.conflict(0, 1) > 0, theirs);
            due("choose(1)", b.x.choose(1, theirs), 4);
            due("row 5, of O", b.x.conflict(1, 1) > 0, !theirs);
            due("choose(2)", b.x.choose(2, theirs), 3);
            due("column C, of O", b.x.conflict(2, 2) > 0, !theirs);
            due("choose(3)", b.x.choose(3, theirs), 2);
            due("column E, of T", b.x.conflict(3, 2) > 0, theirs);
            due("rows, columns", b.x.sheet(-1, 0) + " " + b.x.sheet(-1, 1), "7 5");

            Said.term(6, "Kind 3: its content becomes T's, or O's as it was.");
            b.in("A1", "else");
            due("choose(4)", b.x.choose(4, theirs), 1);
            due("A1", b.shows("A1"), theirs ? "'theirs" : "'ours");
            due("choose(4), the other one", b.x.choose(4, !theirs), 1);
            due("A1", b.shows("A1"), theirs ? "'ours" : "'theirs");
            b.x.insert(0, 1);
            due("choose(5)", b.x.choose(5, theirs), 0);
            due("at its place now", b.shows("A" + b.x.sheet(-1, 0)), theirs ? "'theirs" : "'ours");
        }
    }

    private static void settledWithoutEffect() {
        Said.term(6, "(Nothing is done to the sheet where the row or column is no more, or where it would be the only one that goes; it is a step all the same.)");
        Bench b = sixConflicts();
        b.x.remove(0, 2);
        b.x.remove(1, 3);
        b.x.remove(0, 1);
        String before = b.contents(-1);
        int[] gone = {0, 2, 4};
        int steps = b.x.total(4);
        for (int i = 0; i < gone.length; i++) {
            due("choose(" + gone[i] + ", false)", b.x.choose(gone[i], false), 5 - i);
            due("choose(" + gone[i] + ", true)", b.x.choose(gone[i], true), 5 - i);
            due("the sheet", b.contents(-1), before);
            steps += 2;
            due("total(4)", b.x.total(4), steps);
        }
        while (b.x.sheet(-1, 0) > 1) {
            b.x.remove(0, b.x.conflict(1, 1) == 1 ? 2 : 1);
        }
        while (b.x.sheet(-1, 1) > 1) {
            b.x.remove(1, b.x.conflict(3, 2) == 1 ? 2 : 1);
        }
        due("the only row and column", conflictOf(b, 1) + ", " + conflictOf(b, 3), "1 1 0 0, 2 0 1 0");
        before = b.contents(-1);
        steps = b.x.total(4);
        due("choose(1, true)", b.x.choose(1, true), 2);
        due("choose(3, false)", b.x.choose(3, false), 1);
        due("the sheet", b.contents(-1), before);
        due("total(4)", b.x.total(4), steps + 2);
        due("choose(5, true)", b.x.choose(5, true), 0);
        due("commit", Bench.of(b.x::commit), 4);
        Bench c = sixConflicts();
        c.x.remove(1, 1);
        before = c.contents(-1);
        due("choose of a cell whose column is no more", c.x.choose(4, true), 5);
        due("the sheet", c.contents(-1), before);
    }

    private static void conflict() {
        Said.promise(20, "1, 2: at which place its row, its column is now (0 if it has none, or it is not there any more), 3: whether it is settled (1, 0).");
        Bench b = sixConflicts();
        b.x.insert(0, 1);
        b.x.insert(1, 1);
        due("a row further on", conflictOf(b, 0) + ", " + conflictOf(b, 2) + ", " + conflictOf(b, 4), "1 3 0 0, 2 0 4 0, 3 2 2 0");
        b.x.remove(0, 2);
        due("its row is not there any more", conflictOf(b, 4), "3 0 2 0");
        b.x.remove(1, 2);
        due("neither is its column", conflictOf(b, 4), "3 0 0 0");
        b.x.undo();
        b.x.undo();
        due("they are again", conflictOf(b, 4), "3 2 2 0");
        b.x.choose(4, false);
        due("it is settled", conflictOf(b, 4), "3 2 2 1");
        b.x.undo();
        due("also when that is undone", conflictOf(b, 4), "3 2 2 1");

        Said.promise(20, "NONE if there is none such, or for another what.");
        int[] none = {-1, 6, MOST, LEAST};
        for (int n : none) {
            due("conflict(" + n + ", 0)", b.x.conflict(n, 0), -1);
            due("conflict(0, " + n + ")", b.x.conflict(0, n == 6 ? 4 : n), -1);
        }
        due("conflict(5, 0)", b.x.conflict(5, 0), 3);
        due("of a new object", new SheetBranches().conflict(0, 0), -1);

        Said.promise(20, "Of a CONFLICT of the latest merge() or pick() (that did something; none behind drop(), go(), commit())");
        for (int i = 0; i < 6; i++) {
            b.x.choose(i, false);
        }
        b.x.commit();
        due("behind commit", b.x.conflict(0, 0), -1);
        Bench c = forked();
        commitAndGo(c.in("A1", "x"), 1).in("A1", "y").x.commit();
        c.x.pick(2);
        c.x.choose(0, false);
        due("merge of an ancestor", c.x.merge(1), -1);
        due("pick that throws", Bench.of(() -> c.x.pick(0)), NO_ELEMENT);
        due("it is still told", conflictOf(c, 0), "3 1 1 1");
        c.x.go(1);
        due("behind go", c.x.conflict(0, 0), -1);
        c.x.pick(2);
        c.x.drop();
        due("behind drop", c.x.conflict(0, 0), -1);
    }

    private static void choose() {
        Said.promise(21, "CHOOSE: a CONFLICT is settled (also one that was): how many are not yet.");
        Bench b = sixConflicts();
        due("choose(5, true)", b.x.choose(5, true), 5);
        due("choose(5, false), one that was", b.x.choose(5, false), 5);
        due("total(3)", b.x.total(3), 5);

        Said.promise(21, "(A step; undo() takes back what it did to the sheet, and not that it is settled.)");
        due("total(4)", b.x.total(4), 2);
        due("A8", b.shows("A8"), "'ours");
        due("undo", b.x.undo(), 1);
        due("A8", b.shows("A8"), "'theirs");
        due("undo", b.x.undo(), 0);
        due("A8", b.shows("A8"), "'ours");
        due("total(3)", b.x.total(3), 5);
        due("redo", b.x.redo(), 1);
        due("A8", b.shows("A8"), "'theirs");

        Said.promise(21, "IndexOutOfBoundsException: there is none such.");
        int[] none = {-1, 6, MOST, LEAST};
        for (int n : none) {
            due("choose(" + n + ")", Bench.of(() -> b.x.choose(n, true)), NO_INDEX);
        }
        due("total(3)", b.x.total(3), 5);
        due("of a new object", Bench.of(() -> new SheetBranches().choose(0, true)), NO_INDEX);
    }

    private static void base() {
        Said.promise(22, "The BASE of two versions; NONE if one is not there.");
        Bench b = new Bench();
        due("base(0, 0)", b.x.base(0, 0), 0);
        int[] none = {-1, 1, -2, 40, MOST, LEAST};
        for (int n : none) {
            due("base(" + n + ", 0)", b.x.base(n, 0), -1);
            due("base(0, " + n + ")", b.x.base(0, n), -1);
            due("base(" + n + ", " + n + ")", b.x.base(n, n), -1);
        }

        Said.term(6, "ANCESTORS of a version: itself, and those of its parents. The BASE of two versions: the common ancestor with the greatest number.");
        b.x.branch(1);
        commitAndGo(b, 1).x.commit();
        due("base(1, 2)", b.x.base(1, 2), 0);
        due("base(2, 2)", b.x.base(2, 2), 2);
        b.x.branch(2);
        b.x.merge(0);
        commitAndGo(b, 2);
        b.x.commit();
        due("base(3, 4): over the parent", b.x.base(3, 4), 2);
        due("base(3, 1): over the other parent", b.x.base(3, 1), 1);
        b.x.merge(0);
        b.x.commit();
        due("base(3, 5): two common ones", b.x.base(3, 5), 2);
        due("base(5, 3)", b.x.base(5, 3), 2);
        due("base(0, 5)", b.x.base(0, 5), 0);
        while (b.x.total(0) < 40) {
            b.x.commit();
        }
        due("base(39, 3)", b.x.base(39, 3), 2);
        due("base(39, 38)", b.x.base(39, 38), 38);
        due("base(39, 39)", b.x.base(39, 39), 39);
    }

    private static void diff() {
        Said.promise(23, "How many DIFFERENCES there are from one sheet (a version, or -1) to another one.");
        Bench b = forked();
        due("of the same", b.x.diff(-1, -1) + " " + b.x.diff(0, 0) + " " + b.x.diff(1, -1), "0 0 0");
        due("diff(0, 1)", b.x.diff(0, 1), 13);
        due("diff(1, 0)", b.x.diff(1, 0), 13);

        Said.promise(23, "1 for each row that the first alone has, 2 for each that the second alone has, 3, 4 columns likewise, 5 if rows that both have stand in another order, 6 columns likewise, 7 for each cell (of rows and columns that both have, as they lie in the second) whose contents are not alike.");
        b.x.remove(0, 8);
        b.x.remove(0, 1);
        b.x.remove(1, 6);
        b.x.insert(0, 1);
        b.x.insert(0, 8);
        b.x.insert(1, 6);
        b.x.move(0, 2, 3);
        b.x.move(1, 1, 2);
        b.in("A1", "new row").in("F2", "new column").in("A2", "x").in("B3", "");
        String[] due = {"1 1 0", "1 8 0", "2 1 0", "2 8 0", "3 0 6", "4 0 6", "5 0 0", "6 0 0", "7 2 1", "7 3 2"};
        due("diff(1, -1)", b.x.diff(1, -1), due.length);
        for (int i = 0; i < due.length; i++) {
            due("difference " + i, differenceOf(b, i), due[i]);
        }
        String[] back = {"1 1 0", "1 8 0", "2 1 0", "2 8 0", "3 0 6", "4 0 6", "5 0 0", "6 0 0", "7 2 1", "7 3 2"};
        due("diff(-1, 1)", b.x.diff(-1, 1), back.length);
        due("7, in the places of the second", differenceOf(b, 8) + ", " + differenceOf(b, 9), "7 2 1, 7 3 2");
        due("none such: cells of a row that one has not", b.x.difference(10, 0), -1);
        Bench c = new Bench();
        c.x.remove(0, 1);
        c.x.move(0, 1, 1);
        due("the others keep their order", c.x.diff(0, -1), 1);
        Bench d = new Bench();
        for (int n = 0; n < 24; n++) {
            d.x.insert(0, 1);
        }
        for (int n = 0; n < 4; n++) {
            d.x.insert(1, 1);
        }
        d.x.commit();
        d.in("A1", "x").x.copy(1, 1, 1, 1, 1, 2);
        d.x.copy(1, 1, 1, 2, 1, 3);
        d.x.copy(1, 1, 1, 4, 1, 5);
        d.x.copy(1, 1, 1, 8, 1, 9);
        for (int r = 1; r < 32; r *= 2) {
            d.x.copy(1, 1, r, 10, r + 1, 1);
        }
        d.x.move(0, 1, 32);
        d.x.move(1, 1, 10);
        due("all cells of the greatest sheet", d.x.diff(1, -1), 322);
        due("the last one", differenceOf(d, 321), "7 32 10");
        due("from version 0", d.x.diff(0, -1), 24 + 4 + 48);

        Said.promise(23, "NoSuchElementException: one is not there.");
        int[] none = {-2, 2, 40, MOST, LEAST};
        for (int n : none) {
            due("diff(" + n + ", 0)", Bench.of(() -> d.x.diff(n, 0)), NO_ELEMENT);
            due("diff(0, " + n + ")", Bench.of(() -> d.x.diff(0, n)), NO_ELEMENT);
        }
    }

    private static void difference() {
        Said.promise(24, "Of DIFFERENCE i of the latest diff() that did not throw");
        Bench b = new Bench();
        due("ahead of any", b.x.difference(0, 0), -1);
        b.in("B3", "x");
        b.x.diff(0, -1);
        due("diff that throws", Bench.of(() -> b.x.diff(0, 1)), NO_ELEMENT);
        due("difference 0", differenceOf(b, 0), "7 3 2");
        b.x.insert(0, 1);
        b.x.drop();
        due("as it was told then", differenceOf(b, 0), "7 3 2");
        b.x.diff(0, -1);
        due("of the latest, which has none", b.x.difference(0, 0), -1);

        Said.promise(24, "1, 2: the place of its row, its column (in the sheet that has it, for 7 the second one; 0 where it has none).");
        b.x.remove(0, 3);
        b.x.remove(1, 5);
        b.x.insert(0, 2);
        b.x.insert(1, 4);
        b.in("F8", "x");
        due("diff(0, -1)", b.x.diff(0, -1), 5);
        due("in the first, in the second", differenceOf(b, 0) + ", " + differenceOf(b, 1) + ", " + differenceOf(b, 2) + ", " + differenceOf(b, 3) + ", " + differenceOf(b, 4),
                "1 3 0, 2 2 0, 3 0 5, 4 0 4, 7 8 6");

        Said.promise(24, "NONE if there is none such, or for another what.");
        int[] none = {-1, 5, MOST, LEAST, 1431655765, 715827883};
        for (int n : none) {
            due("difference(" + n + ", 0)", b.x.difference(n, 0), -1);
            due("difference(0, " + n + ")", b.x.difference(0, n), -1);
        }
        due("difference(0, 3)", b.x.difference(0, 3), -1);
        due("difference(4, 2)", b.x.difference(4, 2), 6);
    }

    private static void blame() {
        Said.promise(25, "NONE, if the HEAD has not its row or column, or a content there that is not alike");
        Bench b = forked();
        due("A1", b.x.blame(1, 1), 1);
        due("a cell that ever had nothing", b.x.blame(8, 6), 0);
        b.in("A1", "x");
        due("not alike", b.x.blame(1, 1), -1);
        b.in("A1", "1");
        due("alike again", b.x.blame(1, 1), 1);
        b.x.erase(1, 1, 1, 1);
        due("nothing where the HEAD has something", b.x.blame(1, 1), -1);
        b.x.insert(0, 1);
        due("a row that the HEAD has not", b.x.blame(1, 2), -1);
        due("a row further on", b.x.blame(3, 1), 1);
        b.x.insert(1, 1);
        due("a column that the HEAD has not", b.x.blame(3, 1), -1);
        due("a column further on", b.x.blame(3, 2), 1);

        Said.promise(25, "else, from the HEAD on: if the PARENT has both, and a content alike, go on there; else, if there is an OTHER PARENT and it has so, there; else this version.");
        Bench c = forked();
        c.in("B2", "same").in("C2", "main").x.insert(0, 9);
        c.in("A9", "new");
        commitAndGo(c, 1).in("B2", "same").in("D2", "other").x.commit();
        c.x.merge(0);
        c.in("E2", "merged").x.commit();
        due("of this version", c.x.blame(2, 5), 4);
        due("of the PARENT", c.x.blame(2, 4), 3);
        due("of the OTHER PARENT", c.x.blame(2, 3), 2);
        due("of both: the PARENT first", c.x.blame(2, 2), 3);
        due("of the ancestor of both", c.x.blame(2, 1), 1);
        due("a row of the OTHER PARENT", c.x.blame(9, 1), 2);
        due("nothing in a row of the OTHER PARENT", c.x.blame(9, 2), 2);
        due("nothing since the beginning", c.x.blame(8, 6), 0);
        c.in("B2", "else").x.commit();
        c.in("B2", "same").x.commit();
        due("what came again is of the later one", c.x.blame(2, 2), 6);
        c.x.commit();
        due("as it is in the PARENT", c.x.blame(2, 2), 6);
        while (c.x.total(0) < 40) {
            c.x.commit();
        }
        due("over all versions", c.x.blame(8, 6), 0);

        Said.promise(25, "IndexOutOfBoundsException: there is no such cell.");
        int[][] none = {{0, 1}, {10, 1}, {1, 0}, {1, 7}, {-1, -1}, {MOST, 1}, {1, LEAST}};
        for (int[] n : none) {
            due("blame(" + n[0] + ", " + n[1] + ")", Bench.of(() -> c.x.blame(n[0], n[1])), NO_INDEX);
        }
    }

    private static void sheet() {
        Said.promise(26, "what 0: rows, 1: columns, 2: its PARENT, 3: its OTHER PARENT (NONE, if there is none; of the working sheet the HEAD, and the version of a MERGE that is under way).");
        Bench b = forked();
        b.x.insert(0, 1);
        commitAndGo(b, 1).x.remove(1, 1);
        b.x.commit();
        b.x.merge(0);
        b.x.insert(1, 1);
        String[] due = {"9 6 3 2", "8 6 -1 -1", "8 6 0 -1", "9 6 1 -1", "8 5 1 -1"};
        for (int v = -1; v <= 3; v++) {
            due("sheet " + v, b.x.sheet(v, 0) + " " + b.x.sheet(v, 1) + " " + b.x.sheet(v, 2) + " " + b.x.sheet(v, 3), due[v + 1]);
        }
        due("commit", b.x.commit(), 4);
        due("sheet 4", b.x.sheet(4, 2) + " " + b.x.sheet(4, 3), "3 2");

        Said.promise(26, "NONE if there is no such sheet, or for another what.");
        int[] none = {-2, 5, 40, MOST, LEAST};
        for (int n : none) {
            due("sheet(" + n + ", 0)", b.x.sheet(n, 0), -1);
            due("sheet(" + n + ", 2)", b.x.sheet(n, 2), -1);
        }
        int[] others = {-1, 4, MOST, LEAST};
        for (int n : others) {
            due("sheet(-1, " + n + ")", b.x.sheet(-1, n), -1);
            due("sheet(0, " + n + ")", b.x.sheet(0, n), -1);
        }
    }

    private static void total() {
        Said.promise(31, "What 0: versions, 1: the branch gone to, 2: the HEAD, 3: CONFLICTS not settled, 4: steps that can be undone, 5: that can be done again, 6: PARTS made, 7: bytes of the tape, 8: MERGES and PICKS, 9: 1 if the working sheet is like the HEAD, else 0; 10 .. 15: the version at which branch 0 .. 5 is (NONE).");
        Bench b = sixConflicts();
        b.x.choose(4, false);
        b.in("E8", "=1+1").in("E7", "=-1").x.undo();
        b.tape("abcd");
        b.x.branch(5);
        int[] due = {4, 1, 3, 5, 2, 1, 5, 4, 1, 0, 2, 3, -1, -1, -1, 3};
        for (int i = 0; i < due.length; i++) {
            due("total(" + i + ")", b.x.total(i), due[i]);
        }
        b.x.drop();
        due("total(9)", b.x.total(9), 1);

        Said.promise(31, "NONE for another what.");
        int[] none = {-1, 16, 17, 100, MOST, LEAST};
        for (int n : none) {
            due("total(" + n + ")", b.x.total(n), -1);
        }
    }
}
