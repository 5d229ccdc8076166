/** Each sentence that names a boundary case of the tape, of what is entered, its FAULTS, and how it is WRITTEN. */
public final class EdgesOfEnteringTest {
    private static final String ABC = "abcdefghijklmnopqrstuvwxyz";

    public static void main(String[] args) {
        newObject();
        feed();
        end();
        enter();
        enterFull();
        fault();
        plain();
        grammar();
        corners();
        tokens();
        howManyArgs();
        whatMustStand();
        meaning();
        faultsOfKindOne();
        faultsOfKindTwo();
        faultsOfKindThreeAndFour();
        faultsOfKindFiveAndSix();
        writtenPlain();
        writtenFormulas();
        writtenPlaces();
        alike();
        written();
        Bench.finish();
    }

    private static void due(String call, Object got, Object want) {
        Bench.due(call, got, want);
    }

    /** Rows of a text and the FAULT that is due ("0@-1" without one). */
    private static void faults(String... rows) {
        faultsIn(new Bench(), rows);
    }

    private static void faultsIn(Bench b, String... rows) {
        for (int i = 0; i + 1 < rows.length; i += 2) {
            due("fault of [" + rows[i] + "]", b.faultOf(rows[i]), rows[i + 1]);
        }
    }

    /** Rows of a formula and what it comes to. */
    private static void comesTo(String... rows) {
        Bench b = new Bench();
        for (int i = 0; i + 1 < rows.length; i += 2) {
            due(rows[i], b.comesTo(rows[i]), rows[i + 1]);
        }
    }

    /** Rows of what is entered and how it is written. */
    private static void writes(String... rows) {
        Bench b = new Bench();
        for (int i = 0; i + 1 < rows.length; i += 2) {
            due("written of [" + rows[i] + "]", b.again(rows[i]), rows[i + 1]);
        }
    }

    /** Rows of what is entered and the value that the cell has. */
    private static void shows(String... rows) {
        Bench b = new Bench();
        for (int i = 0; i + 1 < rows.length; i += 2) {
            due("enter of [" + rows[i] + "]", b.enter("B2", rows[i]), 0);
            due("value of [" + rows[i] + "]", b.shows("B2"), rows[i + 1]);
        }
    }

    private static String times(int n, String text) {
        return text.repeat(n);
    }

    private static void newObject() {
        Said.promise(1, "As said above; an empty tape.");
        SheetBranches x = new SheetBranches();
        due("total(7)", x.total(7), 0);
        due("end(0)", x.end(0), true);
        due("end(1)", x.end(1), false);
        due("enter of the empty tape", x.enter(1, 1), 0);
        due("kind", x.kind(-1, 1, 1), 0);
    }

    private static void feed() {
        Said.promise(2, "Twenty bytes come behind the tape, of each number the highest first: how many it has.");
        Bench b = new Bench();
        due("feed", b.x.feed(0x27202122, 0x30313233, 0x41424344, 0x61626364, 0x7b7c7d7e), 20);
        b.x.enter(1, 1);
        due("A1", b.shows("A1"), "' !\"0123ABCDabcd{|}~");
        due("feed", b.x.feed(0x41424344, 0x80000000, 0, -1, Integer.MAX_VALUE), 20);
        due("feed", b.x.feed(1, 2, 3, 4, 5), 40);
        due("end(5)", b.x.end(5), true);
        due("feed behind it", b.x.feed(0x45464748, 0, 0, 0, 0), 25);
        due("end(4)", b.x.end(4), true);
        b.x.enter(1, 2);
        due("B1", b.shows("B1"), "'ABCD");

        Said.promise(2, "NONE if there would be more than 400.");
        SheetBranches x = new SheetBranches();
        for (int i = 1; i <= 20; i++) {
            due("feed", x.feed(0x20202020, 0x20202020, 0x20202020, 0x20202020, 0x20202020), 20 * i);
        }
        due("feed of the 401st", x.feed(0x58585858, 0, 0, 0, 0), -1);
        due("total(7)", x.total(7), 400);
        due("end(381)", x.end(381), true);
        due("feed of the 401st", x.feed(0x58585858, 0, 0, 0, 0), -1);
        due("total(7)", x.total(7), 381);
        due("end(380)", x.end(380), true);
        due("feed of the 400th", x.feed(0x20202020, 0x20202020, 0x20202020, 0x20202020, 0x20202037), 400);
        x.enter(1, 1);
        due("the last byte", x.value(-1, 1, 1), 7);
        Bench longest = new Bench();
        longest.tape("=" + times(398, " ") + "1");
        due("total(7)", longest.x.total(7), 400);
        due("enter", longest.x.enter(1, 1), 1);
        String[] ends = {"TRUE", "FALSE", "#REF", "A1", "\"x\"", "SUM(A1:A2)", "A1@0", "NOT(TRUE)"};
        for (String last : ends) {
            due("a full tape that ends with " + last, longest.faultOf("=" + times(399 - last.length(), " ") + last), "0@-1");
        }
        shows(times(396, " ") + "TRUE", "TRUE", times(395, " ") + "FALSE", "FALSE", times(399, " ") + "5", "5", times(385, " ") + "123456789012345", "123456789012345",
                times(376, " ") + ABC.substring(0, 24), "'" + ABC.substring(0, 24), times(399, " ") + "'", "'");
        faults(times(399, " ") + "=", "1@400", "=" + times(399, "1"), "1@16", times(400, "x"), "6@24", "=" + times(199, "1+") + "1", "5@400", times(399, " ") + "\u0000", "1@399",
                "=" + times(133, "1+ "), "1@400", "=" + times(399, "A"), "1@1", "=1" + times(398, " "), "0@-1", "=1+" + times(397, " "), "1@400");
    }

    private static void end() {
        Said.promise(3, "The tape has its first n bytes alone: true; false if it has not so many, or n is below 0.");
        Bench b = new Bench();
        b.tape("12345");
        int[] no = {6, 21, 401, Integer.MAX_VALUE, -1, Integer.MIN_VALUE};
        for (int n : no) {
            due("end(" + n + ")", b.x.end(n), false);
            due("total(7)", b.x.total(7), 5);
        }
        due("end(5)", b.x.end(5), true);
        due("end(4)", b.x.end(4), true);
        due("total(7)", b.x.total(7), 4);
        due("end(5)", b.x.end(5), false);
        b.x.enter(1, 1);
        due("A1", b.shows("A1"), "1234");
        b.tape("x");
        due("end(0)", b.x.end(0), true);
        due("total(7)", b.x.total(7), 0);
        String[][] cuts = {{"=A1@0", "900", "0@-1"}, {"=A1", "0", "0@-1"}, {"=A1", "23", "0@-1"}, {"=A1", "B", "0@-1"}, {"=A1", "@9", "0@-1"}, {"=123456789012345", "6", "0@-1"},
            {"=TRUE", "X", "0@-1"}, {"=#REF", "X", "0@-1"}, {"=\"a\"", "x", "0@-1"}, {"=\"a", "\"", "1@3"}, {"=1<", "=2", "1@3"}, {"=SUM(A1:A1", ")", "1@10"}, {"=SUM(A1:", "A2)", "1@8"},
            {"=A1@", "0", "1@4"}, {"=1", "+", "0@-1"}, {"=1+", "1", "1@3"}, {"=(1", ")", "1@3"}, {"=#RE", "F", "1@1"}, {"=A", "1", "1@1"}, {"=$", "A1", "1@1"}, {"=SUM(A1", ":A99)", "1@7"},
            {"TRUE", "X", "0@-1"}, {ABC.substring(0, 24), "yz", "0@-1"}, {"12", "\u0000", "0@-1"}, {"", "=", "0@-1"}};
        for (String[] cut : cuts) {
            b.tape(cut[0] + cut[1]);
            b.x.end(cut[0].length());
            String thrown = Bench.of(() -> b.x.enter(2, 2));
            due("[" + cut[0] + "] of [" + cut[0] + cut[1] + "]", b.x.fault(0) + "@" + b.x.fault(1), cut[2]);
            due("it throws", thrown.startsWith("throws"), !cut[2].equals("0@-1"));
            due("written", b.writes("B2"), cut[2].equals("0@-1") ? cut[0] : "");
            b.x.erase(2, 2, 2, 2);
        }
    }

    private static void enter() {
        Said.promise(4, "how many PARTS it has (0 if it is no FORMULA).");
        Bench b = new Bench();
        String[][] rows = {{"", "0"}, {"5", "0"}, {"x", "0"}, {"TRUE", "0"}, {"=5", "1"}, {"=-5", "2"}, {"=" + times(29, "1+") + "-1", "60"}};
        for (String[] r : rows) {
            due("enter of [" + r[0] + "]", b.enter("A1", r[0]), r[1]);
        }

        Said.promise(4, "The tape is empty then, also if IllegalArgumentException or UnsupportedOperationException is thrown.");
        b.in("A1", "7");
        due("total(7)", b.x.total(7), 0);
        due("enter", b.enter("A1", "=1+"), "throws.IllegalArgumentException");
        due("total(7)", b.x.total(7), 0);
        due("A1", b.shows("A1"), "7");

        Said.promise(4, "IndexOutOfBoundsException: there is no such cell");
        b.tape("=1+");
        int[][] none = {{0, 1}, {9, 1}, {1, 0}, {1, 7}, {-1, 1}, {1, -1}, {Integer.MAX_VALUE, 1}, {1, Integer.MIN_VALUE}};
        for (int[] n : none) {
            due("enter(" + n[0] + ", " + n[1] + ")", Bench.of(() -> b.x.enter(n[0], n[1])), "throws.IndexOutOfBoundsException");
        }
        due("total(7), the tape stays", b.x.total(7), 3);
        b.x.end(0);
        int[][] corners = {{1, 1}, {8, 6}, {1, 6}, {8, 1}};
        for (int[] n : corners) {
            due("enter(" + n[0] + ", " + n[1] + ")", Bench.of(() -> b.x.enter(n[0], n[1])), 0);
        }

        Said.promise(4, "IllegalArgumentException: a FAULT");
        String[] faulty = {"=", "=" + times(21, "(") + "1" + times(21, ")"), "=A9", "=IF(1)", "=" + times(30, "1+") + "1", ABC, "\u007f"};
        int[] kinds = {1, 2, 3, 4, 5, 6, 1};
        for (int i = 0; i < faulty.length; i++) {
            due("enter of [" + faulty[i] + "]", b.enter("A1", faulty[i]), "throws.IllegalArgumentException");
            due("fault(0)", b.x.fault(0), kinds[i]);
        }
    }

    /** A sheet with so many cells of 60 PARTS that 60000 are made but for as many as are told. */
    private static Bench nearlyFull(int left) {
        Bench b = new Bench().in("A1", "=" + times(29, "1+") + "-1");
        b.x.copy(1, 1, 1, 1, 1, 2);
        b.x.copy(1, 1, 1, 2, 1, 3);
        b.x.copy(1, 1, 1, 2, 1, 5);
        b.x.copy(1, 1, 1, 6, 2, 1);
        b.x.copy(1, 1, 2, 6, 3, 1);
        b.x.copy(1, 1, 4, 6, 5, 1);
        for (int i = 0; i < 19; i++) {
            b.x.copy(1, 1, 8, 6, 1, 1);
        }
        b.x.copy(1, 1, 6, 6, 1, 1);
        b.x.copy(1, 1, 3, 1, 1, 1);
        b.in("A1", "=" + times(29, "1+") + "1");
        if (left == 0) {
            b.in("A1", "=1");
        }
        return b;
    }

    private static void enterFull() {
        Said.promise(4, "UnsupportedOperationException: FULL.");
        Bench b = nearlyFull(1);
        due("total(6)", b.x.total(6), 59999);
        int steps = b.x.total(4);
        due("enter of 2 PARTS", b.enter("A1", "=-1"), "throws.UnsupportedOperationException");
        due("total(6)", b.x.total(6), 59999);
        due("total(7)", b.x.total(7), 0);
        due("total(4)", b.x.total(4), steps);
        due("A1", b.shows("A1"), "30");
        due("fault(0) fault(1)", b.x.fault(0) + " " + b.x.fault(1), "0 -1");
        due("enter of 1 PART", b.enter("A1", "=1"), "1");
        due("total(6)", b.x.total(6), 60000);
        due("enter of 1 PART", b.enter("A1", "=1"), "throws.UnsupportedOperationException");
        due("enter of a FAULT", b.enter("A1", "=1+"), "throws.IllegalArgumentException");
        due("enter of no FORMULA", b.enter("A1", "x"), "0");

        Said.term(5, "All PARTS of FORMULAS that were entered or copied since the beginning are at most 60000: FULL beyond.");
        Bench c = nearlyFull(0);
        due("total(6)", c.x.total(6), 60000);
        c.x.undo();
        due("undo gives none back", c.x.total(6), 60000);
        due("enter", c.enter("A1", "=1"), "throws.UnsupportedOperationException");
        c.x.erase(1, 1, 8, 6);
        due("erase gives none back", c.enter("A1", "=1"), "throws.UnsupportedOperationException");
        c.x.drop();
        due("drop gives none back", c.enter("A1", "=1"), "throws.UnsupportedOperationException");
        c.in("A1", "5");
        due("copy of no FORMULA", Bench.of(() -> c.x.copy(1, 1, 1, 1, 2, 2)), 1);
    }

    private static void fault() {
        Said.promise(5, "0 ahead of any.");
        Bench b = new Bench();
        due("fault(0)", b.x.fault(0), 0);
        due("fault(1)", b.x.fault(1), 0);
        b.tape("=");
        due("enter", Bench.of(() -> b.x.enter(9, 1)), "throws.IndexOutOfBoundsException");
        due("fault(0), still ahead of any", b.x.fault(0), 0);
        due("fault(1), still ahead of any", b.x.fault(1), 0);
        due("fault(2), another what", b.x.fault(2), -1);

        Said.promise(5, "what 0: the kind (0 without one), 1: the place (NONE).");
        due("enter", Bench.of(() -> b.x.enter(1, 1)), "throws.IllegalArgumentException");
        due("fault(0) fault(1)", b.x.fault(0) + " " + b.x.fault(1), "1 1");
        b.in("A1", "");
        due("fault(0) fault(1)", b.x.fault(0) + " " + b.x.fault(1), "0 -1");
        due("a place of 0", b.faultOf("\u0000"), "1@0");

        Said.promise(5, "Of the latest enter() that did not throw IndexOutOfBoundsException");
        b.faultOf("=1+");
        b.tape("5");
        due("enter", Bench.of(() -> b.x.enter(1, 7)), "throws.IndexOutOfBoundsException");
        due("fault(0) fault(1)", b.x.fault(0) + " " + b.x.fault(1), "1 3");
        b.x.enter(1, 6);
        due("fault(0) fault(1)", b.x.fault(0) + " " + b.x.fault(1), "0 -1");

        Said.promise(5, "NONE for another what");
        b.faultOf("=1+");
        int[] others = {2, 3, -1, Integer.MAX_VALUE, Integer.MIN_VALUE};
        for (int what : others) {
            due("fault(" + what + ")", b.x.fault(what), -1);
        }
    }

    private static void plain() {
        Said.term(2, "blanks at either end are left out. Then, if none are left: nothing.");
        shows("", "nothing", " ", "nothing", times(400, " "), "nothing", " 5 ", "5", "  x y  ", "'x y", " TRUE ", "TRUE");

        Said.term(2, "= ahead: a FORMULA (below).");
        comesTo("=1", "1", "  =1  ", "1");
        shows("'=1", "'=1", "a=1", "'a=1");

        Said.term(2, "1 to 15 digits, perhaps with - ahead: a NUMBER.");
        shows("0", "0", "-0", "0", "-1", "-1", "123456789012345", "123456789012345", "999999999999999", "999999999999999",
                "-999999999999999", "-999999999999999", "000000000000007", "7", "0000000000000007", "'0000000000000007",
                "1234567890123456", "'1234567890123456", "-1234567890123456", "'-1234567890123456", "-", "'-", "--1", "'--1", "1-", "'1-",
                "+1", "'+1", "1 2", "'1 2", "- 1", "'- 1", "1.0", "'1.0");

        Said.term(2, "TRUE or FALSE: a TRUTH.");
        shows("TRUE", "TRUE", "FALSE", "FALSE", "True", "'True", "TRUE1", "'TRUE1", "TRU", "'TRU", "FALSE FALSE", "'FALSE FALSE");

        Said.term(2, "Else a TEXT: all of them, but without a ' that is the first one.");
        shows("'", "'", "''", "''", "'5", "'5", "'TRUE", "'TRUE", "' x", "' x", "x'", "'x'", " 'x", "'x", "'x ", "'x");

        Said.term(1, "TEXTS have 0 to 24 bytes 32 .. 126.");
        shows("'", "'", ABC.substring(0, 24), "'" + ABC.substring(0, 24), "'" + ABC.substring(0, 24), "'" + ABC.substring(0, 24),
                "' ~", "' ~", "~", "'~");
        faults(ABC.substring(0, 25), "6@24", "x\u001fy", "1@1", "x\u007fy", "1@1");

        Said.term(1, "NUMBERS are whole, from -10^15 to 10^15.");
        comesTo("=999999999999999+1", "1000000000000000", "=999999999999999+2", "BIG", "=-999999999999999-1", "-1000000000000000",
                "=-999999999999999-2", "BIG");
    }

    private static void grammar() {
        Said.term(2, "test = chain [ ( \"=\" | \"<>\" | \"<\" | \"<=\" | \">\" | \">=\" ) chain ].");
        comesTo("=1=1", "TRUE", "=1<>1", "FALSE", "=1<1", "FALSE", "=1<=1", "TRUE", "=1>1", "FALSE", "=1>=1", "TRUE", "=(1=1)=TRUE", "TRUE");
        String[] signs = {"=", "<>", "<", "<=", ">", ">="};
        for (String one : signs) {
            writes("=1&2" + one + "3&4", "=1&2" + one + "3&4", "=1+2" + one + "-3", "=1+2" + one + "-3", "=(1" + one + "2)&3", "=(1" + one + "2)&3");
            comesTo("=1&2" + one + "1&2", one.equals("=") || one.endsWith("=") ? "TRUE" : "FALSE");
            for (String other : signs) {
                faults("=1" + one + "2" + other + "3", "1@" + (3 + one.length()));
                writes("=(1" + one + "2)" + other + "3", "=(1" + one + "2)" + other + "3", "=1" + one + "(2" + other + "3)", "=1" + one + "(2" + other + "3)");
            }
        }
        faults("=1=1=1", "1@4", "=1<2>1", "1@4", "=(1=1=1)", "1@5", "=SUM(1=1=1)", "1@8", "=1=", "1@3", "==1", "1@1");

        Said.term(2, "chain = sum { \"&\" sum }.");
        comesTo("=1", "1", "=1&2&3", "'123", "=1+2&3", "'33", "=1&2=12", "FALSE");
        faults("=1&", "1@3", "=&1", "1@1", "=1&&1", "1@3");

        Said.term(2, "sum = product { ( \"+\" | \"-\" ) product }.");
        comesTo("=10-3-2", "5", "=1+2*3", "7");
        faults("=1+", "1@3", "=+1", "1@1", "=1++1", "1@3");

        Said.term(2, "product = sign { ( \"*\" | \"/\" | \"%\" ) sign }.");
        comesTo("=16/4/2", "2", "=17%10%4", "3", "=2*3%4", "2");
        faults("=2*", "1@3", "=*2", "1@1", "=2**2", "1@3", "=%", "1@1");

        Said.term(2, "sign = \"-\" sign | atom.");
        comesTo("=--5", "5", "=---5", "-5", "=2--3", "5", "=2*-3", "-6", "=-2*3", "-6");
        faults("=-", "1@2", "=5-", "1@3");

        Said.term(2, "atom = NUMBER (1 to 15 digits) | TEXT (in \", without \" in it) | TRUE | FALSE | #REF | SPOT | call | \"(\" test \")\".");
        comesTo("=0", "0", "=999999999999999", "999999999999999", "=\"\"", "'", "=\"'\"", "''", "=TRUE", "TRUE", "=FALSE", "FALSE",
                "=#REF", "REF", "=A1", "0", "=(1=1)", "TRUE", "=((5))", "5");
        faults("=1234567890123456", "1@16", "=\"a\"\"b\"", "1@4", "=()", "1@2", "=(1", "1@3", "=1)", "1@2", "=true", "1@1", "=#REF!", "1@5");

        Said.term(2, "call = NAME \"(\" arg { \",\" arg } \")\".");
        comesTo("=SUM(1)", "1", "=SUM(1,2)", "3");
        faults("=SUM", "1@4", "=SUM(", "1@5", "=SUM()", "1@5", "=SUM(1", "1@6", "=SUM(1,", "1@7", "=SUM(1,)", "1@7", "=SUM(,1)", "1@5",
                "=SUM(1 2)", "1@7", "=SUM(1))", "1@7");

        Said.term(2, "arg = AREA | test.");
        comesTo("=SUM(A1:B2)", "0", "=AND(1=1)", "TRUE");
        faults("=SUM(A1:A2+1)", "1@10", "=SUM((A1:A2))", "1@8", "=A1:A2", "1@3", "=SUM(A1:A2 A1)", "1@11");
    }

    private static void corners() {
        Said.term(2, "SPOT = CORNER [ \"@\" digits ], AREA = CORNER \":\" CORNER [ \"@\" digits ];");
        faults("=A1", "0@-1", "=A1@0", "0@-1", "=SUM(A1:B2)", "0@-1", "=SUM(A1:B2@0)", "0@-1", "=SUM(A1@0:B2)", "1@9", "=SUM(A1@0:B2@0)", "1@9", "=A1@0@0", "1@5",
                "=SUM(A1:B2@0@0)", "1@12", "=SUM(A1:B2:C3)", "1@10", "=@0", "1@1", "=SUM(:A1)", "1@5");

        Said.term(2, "CORNER = [ \"$\" ] letter [ \"$\" ] digits: a letter A to J, one or two digits.");
        Bench wide = new Bench();
        for (int n = 7; n <= 10; n++) {
            wide.x.insert(1, 1);
        }
        for (int n = 9; n <= 32; n++) {
            wide.x.insert(0, 1);
        }
        faultsIn(wide, "=A1", "0@-1", "=$A1", "0@-1", "=A$1", "0@-1", "=$A$1", "0@-1", "=J32", "0@-1", "=$J$32", "0@-1", "=A01", "0@-1",
                "=J33", "3@1", "=A99", "3@1", "=A0", "3@1", "=A00", "3@1", "=K1", "1@1", "=Z1", "1@1", "=a1", "1@1", "=A001", "1@1",
                "=A123", "1@1", "=A", "1@1", "=$1", "1@1", "=$$A1", "1@1", "=A$$1", "1@1", "=@1", "1@1", "=A-1", "1@1");

        Said.term(2, "(No blanks within a CORNER, and none around @ and :. Digits behind @: one or two.)");
        faults("=A 1", "1@1", "=$ A1", "1@1", "=A$ 1", "1@1", "=A1 @0", "1@4", "=A1@ 0", "1@4", "=SUM(A1 :A2)", "1@8", "=SUM(A1: A2)", "1@8",
                "=SUM(A1:A2 @0)", "1@11", "=SUM(A1:A2@ 0)", "1@11", "=A1@0", "0@-1", "=A1@00", "0@-1", "=A1@000", "1@6",
                "=SUM(A1:A2@00)", "0@-1", "=SUM(A1:A2@000)", "1@13", "=A1@", "1@4");

        Said.term(2, "Blanks may stand between all other tokens.");
        faults("  =  1  +  - ( 2  *  A1@0 )  &  \" x \"  <>  SUM  (  A1:A2@0  ,  #REF  )  ", "0@-1", "= IF ( TRUE , $A$1 , - - 1 )", "0@-1");
    }

    private static void tokens() {
        Said.term(2, "A token goes as far as it can");
        comesTo("=1<>2", "TRUE", "=1<=2", "TRUE", "=1>=2", "FALSE", "=12", "12");
        faults("=1< >2", "1@4", "=1< =2", "1@4", "=1> =2", "1@4", "=1=<2", "1@3", "=1=>2", "1@3", "=1><2", "1@3", "=1<<2", "1@3",
                "=1 2", "1@3", "=#R EF", "1@1");

        Said.term(2, "letters (A to Z) that begin no CORNER (one that has no letter A to Z or digit right behind it) are a WORD, as many as there are.");
        faults("=A1B", "1@1", "=A12C", "1@1", "=A123", "1@1", "=AB1", "1@1", "=$A1B", "1@1", "=A1b", "1@3", "=A1_", "1@3", "=IF1", "1@3",
                "=TRUE1", "1@5", "=TRUEA1", "1@1", "=TRUEFALSE", "1@1", "=SUMX(1)", "1@1", "=XSUM(1)", "1@1", "=SU M(1)", "1@1",
                "=SUM(A1:B2C)", "1@8", "=SUM(A1:B234)", "1@8", "=SUM(A1:B2c)", "1@10",
                "=A1A", "1@1", "=A1Z", "1@1", "=A12Z", "1@1", "=A1[", "1@3", "=A1@", "1@4", "=A19", "3@1", "=A190", "1@1", "=SUMA(1)", "1@1", "=SUMZ(1)", "1@1", "=A1a", "1@3");
    }

    /** A call of a NAME with so many args, each such as may stand there. */
    private static String callOf(String name, int args) {
        StringBuilder b = new StringBuilder("=" + name + "(");
        for (int k = 0; k < args; k++) {
            boolean area = (name.equals("INDEX") || name.equals("COUNTIF")) && k == 0 || name.equals("MATCH") && k == 1;
            b.append(k > 0 ? "," : "").append(area ? "A1:A2" : "A1");
        }
        return b.append(")").toString();
    }

    private static void howManyArgs() {
        Said.term(2, "NAMES, and how many args: IF 3; AND OR SUM MIN MAX COUNT 1 to 8; NOT ABS LEN ISERR ROW COL 1; LEFT RIGHT INDEX MATCH COUNTIF 2.");
        Bench b = new Bench();
        String[][] names = {{"IF"}, {"AND", "OR", "SUM", "MIN", "MAX", "COUNT"}, {"NOT", "ABS", "LEN", "ISERR", "ROW", "COL"},
            {"LEFT", "RIGHT", "INDEX", "MATCH", "COUNTIF"}};
        int[][] howMany = {{3, 3}, {1, 8}, {1, 1}, {2, 2}};
        for (int i = 0; i < names.length; i++) {
            for (String name : names[i]) {
                due("fault of " + name + "()", b.faultOf(callOf(name, 0)), "1@" + (name.length() + 2));
                for (int n = 1; n <= 10; n++) {
                    boolean fits = n >= howMany[i][0] && n <= howMany[i][1];
                    due("fault of " + callOf(name, n), b.faultOf(callOf(name, n)), fits ? "0@-1" : "4@1");
                }
                due("enter of " + callOf(name, howMany[i][1]), b.enter("F8", callOf(name, howMany[i][1])), howMany[i][1] + 1);
            }
        }
    }

    private static void whatMustStand() {
        Said.term(2, "An AREA may stand in AND, OR, SUM, MIN, MAX and COUNT, and must stand first in INDEX and COUNTIF, second in MATCH (there #REF is one)");
        for (String name : new String[] {"AND", "OR", "SUM", "MIN", "MAX", "COUNT"}) {
            faults("=" + name + "(A1:A2)", "0@-1", "=" + name + "(1,A1:A2,#REF,A1:A2@0)", "0@-1", "=" + name + "(A1)", "0@-1");
        }
        for (String name : new String[] {"NOT", "ABS", "LEN", "ISERR", "ROW", "COL"}) {
            faults("=" + name + "(A1:A2)", "4@1", "=" + name + "(A1)", "0@-1", "=" + name + "(#REF)", "0@-1");
        }
        for (String name : new String[] {"LEFT", "RIGHT"}) {
            faults("=" + name + "(A1:A2,1)", "4@1", "=" + name + "(1,A1:A2)", "4@1", "=" + name + "(#REF,#REF)", "0@-1");
        }
        faults("=IF(A1:A2,1,1)", "4@1", "=IF(1,A1:A2,1)", "4@1", "=IF(1,1,A1:A2)", "4@1", "=IF(#REF,#REF,#REF)", "0@-1");
        for (String name : new String[] {"INDEX", "COUNTIF"}) {
            faults("=" + name + "(A1:A2,1)", "0@-1", "=" + name + "(A1:A1,1)", "0@-1", "=" + name + "(#REF,1)", "0@-1", "=" + name + "(A1,1)", "4@1",
                    "=" + name + "(1,1)", "4@1", "=" + name + "(-#REF,1)", "4@1", "=" + name + "(A1:A2,A1:A2)", "4@1", "=" + name + "(A1:A2,#REF)", "0@-1",
                    "=" + name + "(1,A1:A2)", "4@1", "=1+" + name + "(A1,1)", "4@3");
        }
        faults("=MATCH(1,A1:A2)", "0@-1", "=MATCH(1,#REF)", "0@-1", "=MATCH(#REF,A1:A2)", "0@-1", "=MATCH(1,A1)", "4@1", "=MATCH(1,1)", "4@1",
                "=MATCH(1,#REF&1)", "4@1", "=MATCH(A1:A2,A1:A2)", "4@1", "=MATCH(A1:A2,1)", "4@1");

        Said.term(2, "in ROW and COL a SPOT or #REF alone must.");
        for (String name : new String[] {"ROW", "COL"}) {
            faults("=" + name + "(A1)", "0@-1", "=" + name + "($A$1@0)", "0@-1", "=" + name + "(#REF)", "0@-1", "=" + name + "(1)", "4@1",
                    "=" + name + "(-A1)", "4@1", "=" + name + "(A1+1)", "4@1", "=" + name + "(ROW(A1))", "4@1", "=" + name + "(TRUE)", "4@1",
                    "=" + name + "(\"A1\")", "4@1", "=" + name + "(A1:A1)", "4@1", "=" + name + "(#REF&#REF)", "4@1",
                    "=" + name + "((A1))", "0@-1", "=" + name + "((#REF))", "0@-1", "=" + name + "((1))", "4@1");
        }
    }

    private static void meaning() {
        Said.term(2, "The CORNERS of a SPOT or AREA mean rows and columns that are at these places in the working sheet as it is read, or, with @ v, in version v.");
        Bench b = new Bench().in("A1", "old").in("A8", "last");
        b.x.commit();
        b.x.insert(0, 1);
        b.in("A1", "new").in("B1", "=A1").in("C1", "=A1@1").in("D1", "=A9").in("E1", "=A8@1");
        due("B1 C1 D1 E1", b.shows("B1") + b.shows("C1") + b.shows("D1") + b.shows("E1"), "'new'old'last'last");
        faultsIn(b, "=A9@1", "3@1", "=A9", "0@-1", "=A10", "3@1");
        b.x.remove(0, 9);
        b.x.remove(0, 8);
        faultsIn(b, "=A8", "3@1", "=A8@1", "0@-1", "=A7", "0@-1");
        Bench c = new Bench().in("A1", "old").in("F1", "last");
        c.x.commit();
        c.x.insert(1, 1);
        c.x.move(1, 7, 2);
        c.in("A1", "new").in("A2", "=A1&B1&C1").in("A3", "=INDEX(A1:B1,1)&INDEX(A1:B1,2)").in("A4", "=A1@1").in("A5", "=INDEX(F1:F1@1,1)");
        due("columns likewise", c.shows("A2") + c.shows("A3") + c.shows("A4") + c.shows("A5"), "'newlastold'newlast'old'last");
        due("written", c.writes("A2") + c.writes("A3") + c.writes("A4"), "=A1&B1&C1=INDEX(A1:B1,1)&INDEX(A1:B1,2)=A1@1");
        faultsIn(c, "=G1@1", "3@1", "=G1", "0@-1", "=H1", "3@1");
    }

    private static void faultsOfKindOne() {
        Said.term(2, "FAULTS: of kind 1 and 2 the first along the text");
        String open = times(20, "(");
        faults("=1 1" + open + "(", "1@3", "=" + open + "(1 1", "2@21", "=" + open + "-", "2@21", "=" + open + ")-", "1@21");

        Said.term(2, "1: the first token (sign, if it is none; the end, at the number of all bytes) with which no FORMULA goes on");
        faults("=", "1@1", "  =", "1@3", "=  ", "1@3", "=1+", "1@3", "=1+  ", "1@5", " =(1 ", "1@5", "=1 + )", "1@5", "=1 ! 2", "1@3", "=1 TRUE", "1@3",
                "=1 + * 2", "1@5", "=A1 B2", "1@4", "=SUM(1;2)", "1@6", "=1.5", "1@2", "=[", "1@1", "=SUM(A1:A2  ", "1@12");

        Said.term(2, "(also a WORD that is no NAME or TRUE or FALSE");
        faults("=X", "1@1", "=FOO(1)", "1@1", "=1+TRUTH", "1@3", "=IFS(1,2,3)", "1@1", "=I(1)", "1@1", "=COUNTI(A1:A2,1)", "1@1",
                "=COUNTIFS(A1:A2,1)", "1@1", "=1 FOO", "1@3", "=TRU", "1@1", "=ABCDEFGHIJKLMNOPQRSTUVWXYZ", "1@1", "=REF", "1@1");

        Said.term(2, "the 16th digit of a NUMBER, the third one behind @");
        faults("=123456789012345", "0@-1", "=1234567890123456", "1@16", "=12345678901234567890", "1@16", "=0000000000000001", "1@16",
                "=1+1234567890123456+", "1@18", "=A1@00", "0@-1", "=A1@000", "1@6", "=A1@0000", "1@6", "=SUM(A1:A2@000)", "1@13");

        Said.term(2, "a TEXT in \" by its 25th byte, at its first \" (a shorter one without a second \": the end)");
        String most = ABC.substring(0, 24);
        faults("=\"" + most + "\"", "0@-1", "=\"" + most + "y\"", "1@1", "=\"" + most + "y", "1@1", "=1&\"" + ABC + "\"", "1@3", "=\"" + most, "1@26",
                "=\"", "1@2", "=\"  ", "1@4", " =\"a", "1@4", "=\"a\"&\"", "1@6");

        Said.term(2, "a byte that is not 32 .. 126; the :");
        faults("=1\u001f", "1@2", "=1\u007f", "1@2", "=\u0000", "1@1", "=1+\u0080", "1@3", "=\u00ff", "1@1", "=\"a\u001f\"", "1@3", "=\"\u007f\"", "1@2",
                "=\" ~\"", "0@-1", "=A1\t", "1@3", "=SUM\n(1)", "1@4", "=1\u0000", "1@2", "=\"a\u0000", "1@3");

        Said.term(2, "the : behind a SPOT that does not begin an arg (of a NAME)");
        faults("=A1:A2", "1@3", "=(A1:A2)", "1@4", "=SUM((A1:A2))", "1@8", "=SUM(1+A1:A2)", "1@9", "=SUM(-A1:A2)", "1@8", "=SUM(A1:A2)", "0@-1",
                "=SUM(1,A1:A2)", "0@-1", "=SUM(A1@0:A2)", "1@9", "=SUM(A1:A2:A3)", "1@10", "=A9:A1", "1@3");

        Said.term(2, "the place right behind : or @, if no CORNER, no digit stands there");
        faults("=SUM(A1:", "1@8", "=SUM(A1:)", "1@8", "=SUM(A1:1)", "1@8", "=SUM(A1:K1)", "1@8", "=SUM(A1: A2)", "1@8", "=SUM(A1:$)", "1@8",
                "=SUM(A1:A123)", "1@8", "=A1@", "1@4", "=A1@x", "1@4", "=A1@-1", "1@4", "=A1@A1", "1@4", "=SUM(A1:A2@)", "1@11", "=A1@@0", "1@4",
                "=A1@  ", "1@4", "=SUM(A1:  ", "1@8", "=SUM(A1:A2@  ", "1@11");

        Said.term(2, "a $ or # by which nothing begins)");
        faults("=$", "1@1", "=$A", "1@1", "=$1", "1@1", "=$A$", "1@1", "=$K1", "1@1", "=1+$", "1@3", "=A1$", "1@3", "=#", "1@1", "=#RE", "1@1",
                "=#REG", "1@1", "=#ref", "1@1", "=1+# REF", "1@3", "=#REFX", "1@5");
    }

    private static void faultsOfKindTwo() {
        Said.term(2, "2: a ( or - as a sign of which 20 others are open (a - until its sign is read; a call's ( too), at it.");
        String open = times(20, "(");
        String close = times(20, ")");
        faults("=" + open + "1" + close, "0@-1", "=" + open + "(1)" + close, "2@21", "=" + times(20, "-") + "1", "0@-1",
                "=" + times(21, "-") + "1", "2@21", "= " + open + " (", "2@23", "=" + open + "-1" + close, "2@21", "=" + open + "1-1" + close, "0@-1",
                "=" + open + "1--1" + close, "2@23", "=" + times(10, "-(") + "1" + times(10, ")"), "0@-1", "=" + times(10, "-(") + "-1" + times(10, ")"), "2@21",
                "=" + times(20, "NOT(") + "1" + close, "0@-1", "=" + times(20, "NOT(") + "(1)" + close, "2@81",
                "=" + open + "NOT (1)" + close, "2@25", "=" + times(20, "NOT(") + "-1" + close, "2@81",
                "=" + times(25, "(1)+") + "1", "0@-1", "=" + times(10, "(1)+") + times(12, "-1*") + "1", "0@-1", "=" + times(19, "(") + "-1+(1)" + times(19, ")"), "0@-1",
                "=" + times(19, "(") + "-(1)" + times(19, ")"), "2@21", "=" + times(19, "(") + "(1)+(1)" + times(19, ")"), "0@-1",
                "=" + times(19, "(") + "SUM(1)+SUM(1)" + times(19, ")"), "0@-1");
    }

    private static void faultsOfKindThreeAndFour() {
        Said.term(2, "If there is none, the first along the text of 3: a SPOT or AREA that has a row or column that its sheet has not, or no such version, at its first byte");
        faults("=A8", "0@-1", "=A9", "3@1", "=F1", "0@-1", "=G1", "3@1", "=A0", "3@1", "=$A$9", "3@1", "=1+ A9", "3@4", "=A8@0", "0@-1", "=A9@0", "3@1",
                "=G1@0", "3@1", "=A1@1", "3@1", "=A1@99", "3@1", "=SUM(A1:A9)", "3@5", "=SUM(A9:A1)", "3@5", "=SUM(A1:G1)", "3@5", "=SUM(G1:A1)", "3@5",
                "=SUM(A1:F8)", "0@-1", "=SUM(A1:F8@0)", "0@-1", "=SUM(A1:A2@1)", "3@5", "=A9+G1", "3@1", "=A9+", "1@4", "=A9+" + times(21, "("), "2@24",
                "=ROW(A9)", "3@5");
        Bench b = new Bench();
        for (int v = 1; v <= 39; v++) {
            b.x.commit();
        }
        faultsIn(b, "=A1@39", "0@-1", "=A1@40", "3@1");

        Said.term(2, "4: a NAME whose args are too few, too many, or not such as must stand there, at it.");
        faults("=IF(1,2)", "4@1", "=IF(1,2,3,4)", "4@1", "=1+NOT(1,2)", "4@3", "=INDEX(1,1)", "4@1", "=NOT(IF(1,2))", "4@5", "=NOT(IF(1,2),3)", "4@1",
                "=A9+IF(1,2)", "3@1", "=IF(1,2)+A9", "4@1", "=IF(A9,2)", "4@1", "=NOT(A9,IF(1))", "4@1", "=ABS(A9)+IF(1)", "3@5", "=IF(1,2)+", "1@9",
                "=IF(1,2)+" + times(21, "("), "2@29", "=SUM(1,2,3,4,5,6,7,8,9)", "4@1", "=SUM(A9:A1,IF(1))", "3@5");
    }

    private static void faultsOfKindFiveAndSix() {
        Said.term(2, "If there is none, 5: more than 60 PARTS, at the number of all bytes.");
        String sixty = times(29, "1+") + "-1";
        faults("=" + sixty, "0@-1", "=" + times(30, "1+") + "1", "5@62", "  =" + times(30, "1+") + "1   ", "5@67", "=" + times(30, "1+") + "A9", "3@61",
                "=A9+" + sixty, "3@1", "=" + times(30, "1+") + "IF(1)", "4@61", "=" + times(30, "1+"), "1@61", "=" + times(30, "1+") + times(21, "("), "2@81");

        Said.term(2, "(PARTS: each NUMBER, TEXT, TRUTH, #REF, SPOT, AREA, sign of one or two, call.)");
        Bench b = new Bench();
        String[][] rows = {{"=123", "1"}, {"=\"abc\"", "1"}, {"=TRUE", "1"}, {"=#REF", "1"}, {"=$A$1@0", "1"}, {"=SUM(A1:B2@0)", "2"}, {"=-1", "2"},
            {"=1-1", "3"}, {"=SUM(1,2,3)", "4"}, {"=((1))", "1"}, {"=1<>1", "3"}, {"=NOT(TRUE)", "2"}};
        for (String[] r : rows) {
            due("enter of " + r[0], b.enter("F8", r[0]), r[1]);
        }
        String[] ends = {"\"\"", "TRUE", "#REF", "A1", "SUM(A1:A2)"};
        for (String last : ends) {
            int parts = last.startsWith("SUM") ? 2 : 1;
            due("60 with " + last, b.faultOf("=" + times(28, "1+") + times(4 - parts, "-") + last), "0@-1");
            due("61 with " + last, b.faultOf("=" + times(28, "1+") + times(5 - parts, "-") + last).charAt(0), "5");
        }

        Said.term(2, "Of a TEXT that is entered: 6: more than 24 bytes (behind a ' left out), at its 25th");
        String most = ABC.substring(0, 24);
        faults(most, "0@-1", "'" + most, "0@-1", most + "y", "6@24", "'" + most + "y", "6@25", "  " + ABC + "  ", "6@26", "  '" + ABC, "6@27",
                " " + most + "   ", "0@-1", "''" + most, "6@25", "1234567890123456789012345", "6@24");

        Said.term(2, "for all that is no FORMULA ahead of that: 1: a byte that is not 32 .. 126, at the first one.");
        faults("\u001f", "1@0", "\u007f", "1@0", "1\u0000", "1@1", ABC + "\u0000", "1@26", "TRUE\u00ff\u00fe", "1@4", "  \t  ", "1@2", "'\n", "1@1",
                "\t=1", "1@0", " ~", "0@-1");

        Said.term(2, "(Places count from 0 on, the blanks ahead too.)");
        faults("\u0001", "1@0", "   \u0001", "1@3", "   =", "1@4", "   =A9", "3@4", "   =IF(1)", "4@4", "   =" + times(21, "-"), "2@24");
    }

    private static void writtenPlain() {
        Said.term(4, "nothing without bytes; a NUMBER in decimals; a TRUTH as its word;");
        writes("", "", "0", "0", "-0", "0", "007", "7", "-999999999999999", "-999999999999999", "TRUE", "TRUE", "FALSE", "FALSE");

        Said.term(4, "a TEXT as it is, with ' ahead, if it would be something else without (or would lose something)");
        writes("x", "x", "'", "'", "''", "''", "'x", "x", "'5", "'5", "'-5", "'-5", "'-", "-", "'5x", "5x", "'TRUE", "'TRUE", "'FALSE", "'FALSE", "'TRUEX", "TRUEX",
                "'=", "'=", "'=1", "'=1", "' x", "' x", "''x", "''x", "'123456789012345", "'123456789012345", "'1234567890123456", "1234567890123456",
                "'-1234567890123456", "-1234567890123456", "x'", "x'", "x=", "x=", ABC.substring(0, 24), ABC.substring(0, 24),
                "' " + ABC.substring(0, 23), "' " + ABC.substring(0, 23));
    }

    private static void writtenFormulas() {
        Said.term(4, "( ) just where the grammar wants them: around what stands under a sign and binds less, or as much on the right side of a sign of two (on both sides of those that compare).");
        writes("=((1))", "=1", "=(1)+(2)", "=1+2", "=(1+2)+3", "=1+2+3", "=1+(2+3)", "=1+(2+3)", "=1-(2+3)", "=1-(2+3)", "=(1-2)-3", "=1-2-3",
                "=(1*2)*3", "=1*2*3", "=1*(2/3)", "=1*(2/3)", "=1%(2%3)", "=1%(2%3)", "=(1+2)*3", "=(1+2)*3", "=1*(2+3)", "=1*(2+3)", "=1+(2*3)", "=1+2*3",
                "=(1&2)&3", "=1&2&3", "=1&(2&3)", "=1&(2&3)", "=(1&2)+3", "=(1&2)+3", "=(1+2)&3", "=1+2&3", "=(1=2)=3", "=(1=2)=3", "=1=(2=3)", "=1=(2=3)",
                "=(1<2)>=(3<>4)", "=(1<2)>=(3<>4)", "=(1&2)=(3&4)", "=1&2=3&4", "=(1=2)&3", "=(1=2)&3", "=-(1)", "=-1", "=-(-1)", "=--1", "=-(1+2)", "=-(1+2)",
                "=-(1*2)", "=-(1*2)", "=(-1)*2", "=-1*2", "=2*(-1)", "=2*-1", "=2-(-1)", "=2--1", "=-(1=2)", "=-(1=2)", "=-(1&2)", "=-(1&2)",
                "=SUM((1+2),(3=4))", "=SUM(1+2,3=4)", "=-(SUM(1))", "=-SUM(1)", "=(A1)", "=A1");

        Said.term(4, "a FORMULA as = and its parts without blanks,");
        writes("  =  1  +  2  ", "=1+2", "= SUM ( A1:B2 , 3 ) & \" x \"", "=SUM(A1:B2,3)&\" x \"", "= - 1 <= 2", "=-1<=2", "= IF ( TRUE , #REF , $A$1@0 )", "=IF(TRUE,#REF,$A$1@0)");

        Said.term(4, "NUMBERS without 0s ahead.");
        writes("=007", "=7", "=0", "=0", "=000", "=0", "=000000000000010", "=10", "=999999999999999", "=999999999999999", "010", "10");
    }

    private static void writtenPlaces() {
        Said.term(4, "SPOTS and AREAS with $ as they were told, at the places that their rows and columns have then in the sheet that is asked (with @ in that version; @ v without 0s ahead); #REF, if they are not there.");
        writes("=$A$1+$A1+A$1+A1", "=$A$1+$A1+A$1+A1", "=A08", "=A8", "=SUM($B$2:A1)", "=SUM($B$2:A1)", "=SUM(B2:$A1@00)", "=SUM(B2:$A1@0)", "=A1@00", "=A1@0");
        Bench b = new Bench().in("A1", "=$B$2+B2@0+SUM(B2:C3)");
        b.x.commit();
        b.in("A2", "=B2@01");
        b.x.insert(0, 2);
        for (int n = 0; n < 8; n++) {
            b.x.insert(0, 2);
        }
        due("at the new places", b.writes("A1"), "=$B$11+B2@0+SUM(B11:C12)");
        due("@ without 0s ahead", b.writes("A11"), "=B2@1");
        due("in the version", b.writes(1, "A1"), "=$B$2+B2@0+SUM(B2:C3)");
        b.in("A3", "=A9+A10+A11+SUM(A9:A10)");
        due("places of one digit and of two", b.writes("A3"), "=A9+A10+A11+SUM(A9:A10)");
        b.x.remove(0, 12);
        due("a CORNER is not there", b.writes("A1"), "=$B$11+B2@0+SUM(#REF)");
        b.x.remove(1, 2);
        due("the column is not there", b.writes("A1"), "=#REF+B2@0+SUM(#REF)");
        due("in the version", b.writes(1, "A1"), "=$B$2+B2@0+SUM(B2:C3)");
        b.x.undo();
        b.x.undo();
        due("there again", b.writes("A1"), "=$B$11+B2@0+SUM(B11:C12)");
        while (b.x.total(0) < 40) {
            b.x.commit();
        }
        b.in("A1", "=A1@9+A1@10+A1@11+A1@39+SUM(A1:A2@10)");
        due("versions of one digit and of two", b.writes("A1"), "=A1@9+A1@10+A1@11+A1@39+SUM(A1:A2@10)");
    }

    private static void alike() {
        Said.term(4, "Two contents are ALIKE, if they are of one kind and have the same NUMBER, bytes, TRUTH; FORMULAS: if their parts are, one by one, and mean the same rows and columns, with the same $ and versions.");
        String[] kinds = {"", "0", "'", "FALSE", "=0", "1", "TRUE", "'1", "=1", "'TRUE", "-1", "x", "X", "xy", "'=1", "=\"\"", "=\"x\"", "=FALSE", "=TRUE",
            "=\"1\"", "=A1", "=$A1", "=A$1", "=$A$1", "=A2", "=B1", "=A1@0", "=#REF", "=-1", "=--1", "=1+2", "=2+1", "=1-2", "=1+(2+3)", "=1+2+3", "=SUM(1,2)",
            "=SUM(1)+2", "=MIN(1,2)", "=SUM(A1:B2)", "=SUM(B2:A1)", "=SUM($A1:B2)", "=SUM(A1:$B2)", "=SUM(A1:B2@0)", "=SUM(A1)", "=SUM(SUM(1),2)", "=SUM(SUM(1,2))"};
        for (int i = 0; i < kinds.length; i++) {
            Bench b = new Bench().in("C3", kinds[i]);
            b.x.commit();
            for (int k = 0; k < kinds.length; k++) {
                b.in("C3", kinds[k]);
                due("[" + kinds[k] + "] for [" + kinds[i] + "]: like the HEAD", b.x.total(9), i == k ? 1 : 0);
            }
        }
        String[][] same = {{"7", "007"}, {"0", "-0"}, {"x", "'x"}, {"=1+2", "= (1) + (002)"}, {"=A1@0", "=A01@00"}, {"=(1+2)+3", "=1+2+3"}};
        for (String[] s : same) {
            Bench b = new Bench().in("C3", s[0]);
            b.x.commit();
            b.in("C3", s[1]);
            due("[" + s[1] + "] for [" + s[0] + "]: like the HEAD", b.x.total(9), 1);
        }
        Bench b = new Bench().in("C3", "=A1").in("C4", "=A2");
        b.x.commit();
        b.x.move(0, 1, 2);
        b.in("C3", "=A2");
        due("the same row at another place", b.x.diff(1, -1), 1);
        b.in("C3", "=A1");
        due("another row at the same place", b.x.diff(1, -1), 2);
    }

    private static void written() {
        Said.promise(30, "Byte i of a cell's content as it is WRITTEN; NONE if there is none such.");
        Bench b = new Bench().in("A1", "=B2");
        b.x.commit();
        due("written(-1, 1, 1, 0 .. 2)", b.x.written(-1, 1, 1, 0) + " " + b.x.written(-1, 1, 1, 1) + " " + b.x.written(1, 1, 1, 2), "61 66 50");
        int[][] none = {{-1, 1, 1, 3}, {-1, 1, 1, -1}, {-1, 1, 1, Integer.MAX_VALUE}, {-1, 1, 1, Integer.MIN_VALUE}, {-1, 1, 2, 0}, {0, 1, 1, 0}, {2, 1, 1, 0},
            {-2, 1, 1, 0}, {40, 1, 1, 0}, {Integer.MAX_VALUE, 1, 1, 0}, {-1, 0, 1, 0}, {-1, 9, 1, 0}, {-1, 1, 0, 0}, {-1, 1, 7, 0}, {1, 0, 1, 0}, {1, 1, 7, 0}};
        for (int[] n : none) {
            due("written(" + n[0] + ", " + n[1] + ", " + n[2] + ", " + n[3] + ")", b.x.written(n[0], n[1], n[2], n[3]), -1);
        }
        String longest = "=" + times(13, "\"" + ABC.substring(0, 24) + "\"&") + "1";
        due("the longest", b.again(longest), longest);
    }
}
