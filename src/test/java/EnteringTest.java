/** Promises 1 to 5 and 30: the tape, what is entered, its FAULTS, and how it is WRITTEN. */
public final class EnteringTest {
    public static void main(String[] args) {
        newObject();
        tape();
        plainContents();
        plainFaults();
        enterThrows();
        faultsOfKindOne();
        tokens();
        faultsOfKindTwo();
        laterFaults();
        parts();
        full();
        written();
        Bench.finish();
    }

    private static void due(String call, Object got, Object want) {
        Bench.due(call, got, want);
    }

    private static void newObject() {
        Bench.about("promise 1");
        SheetBranches x = new SheetBranches();
        int[] totals = {1, 0, 0, 0, 0, 0, 0, 0, 0, 1, 0, -1, -1, -1, -1, -1, -1};
        for (int i = 0; i < totals.length; i++) {
            due("total(" + i + ")", x.total(i), totals[i]);
        }
        due("sheet(-1, 0)", x.sheet(-1, 0), 8);
        due("sheet(-1, 1)", x.sheet(-1, 1), 6);
        due("sheet(0, 0)", x.sheet(0, 0), 8);
        due("sheet(0, 1)", x.sheet(0, 1), 6);
        due("kind(-1, 8, 6)", x.kind(-1, 8, 6), 0);
        due("kind(0, 1, 1)", x.kind(0, 1, 1), 0);
        due("NONE", SheetBranches.NONE, -1);
    }

    private static void tape() {
        Bench.about("promises 2 and 3");
        SheetBranches x = new SheetBranches();
        for (int i = 1; i <= 20; i++) {
            due("feed", x.feed(0x41424344, 0x45464748, 0x494a4b4c, 0x4d4e4f50, 0x51525354), 20 * i);
        }
        due("feed beyond 400", x.feed(1, 2, 3, 4, 5), -1);
        due("bytes", x.total(7), 400);
        due("end(401)", x.end(401), false);
        due("end(-1)", x.end(-1), false);
        due("bytes", x.total(7), 400);
        due("end(400)", x.end(400), true);
        due("end(381)", x.end(381), true);
        due("feed beyond 400", x.feed(1, 2, 3, 4, 5), -1);
        due("end(24)", x.end(24), true);
        due("end(25)", x.end(25), false);
        due("bytes", x.total(7), 24);
        x.enter(1, 1);
        due("letters", x.value(-1, 1, 1), 24);
        due("first", x.letter(-1, 1, 1, 0), 65);
        due("20th", x.letter(-1, 1, 1, 19), 84);
        due("21st", x.letter(-1, 1, 1, 20), 65);
        due("bytes", x.total(7), 0);
        due("end(0)", x.end(0), true);
        due("end(1)", x.end(1), false);
    }

    private static void plainContents() {
        Bench.about("promise 4, plain contents");
        String[][] rows = {
            {"", "nothing", ""}, {"   ", "nothing", ""}, {"12", "12", "12"}, {"  12  ", "12", "12"}, {"-5", "-5", "-5"},
            {"-0", "0", "0"}, {"007", "7", "7"}, {"999999999999999", "999999999999999", "999999999999999"},
            {"-999999999999999", "-999999999999999", "-999999999999999"},
            {"1000000000000000", "'1000000000000000", "1000000000000000"}, {"TRUE", "TRUE", "TRUE"},
            {" FALSE", "FALSE", "FALSE"}, {"true", "'true", "true"}, {"TRUE 1", "'TRUE 1", "TRUE 1"}, {"-", "'-", "-"},
            {"+5", "'+5", "+5"}, {"- 5", "'- 5", "- 5"}, {"1.5", "'1.5", "1.5"}, {"'", "'", "'"}, {"''", "''", "''"},
            {"'12", "'12", "'12"}, {"'-12", "'-12", "'-12"}, {"'TRUE", "'TRUE", "'TRUE"}, {"'=1", "'=1", "'=1"},
            {"'abc", "'abc", "abc"}, {"'  abc", "'  abc", "'  abc"}, {"  'abc  ", "'abc", "abc"}, {"a'b", "'a'b", "a'b"},
            {"'1234567890123456", "'1234567890123456", "1234567890123456"}, {"say \"x\"", "'say \"x\"", "say \"x\""},
            {"abcdefghijklmnopqrstuvwx", "'abcdefghijklmnopqrstuvwx", "abcdefghijklmnopqrstuvwx"},
            {"'=bcdefghijklmnopqrstuvwx", "'=bcdefghijklmnopqrstuvwx", "'=bcdefghijklmnopqrstuvwx"}, {"~ !", "'~ !", "~ !"},
        };
        for (String[] r : rows) {
            Bench b = new Bench();
            due("enter of " + r[0], b.enter("B2", r[0]), 0);
            due("fault(0) of " + r[0], b.x.fault(0), 0);
            due("fault(1) of " + r[0], b.x.fault(1), -1);
            due("value of " + r[0], b.shows("B2"), r[1]);
            due("written of " + r[0], b.writes("B2"), r[2]);
            due("steps", b.x.total(4), 1);
            due("parts", b.x.total(6), 0);
        }
        Bench b = new Bench().in("A1", "x").in("A1", "");
        due("nothing over something", b.shows("A1"), "nothing");
    }

    private static void plainFaults() {
        Bench.about("promise 5, plain contents");
        Bench b = new Bench();
        due("fault(0) ahead of any", b.x.fault(0), 0);
        due("fault(1) ahead of any", b.x.fault(1), 0);
        due("fault(2) ahead of any", b.x.fault(2), -1);
        String[][] rows = {
            {"abcdefghijklmnopqrstuvwxy", "6@24"}, {"  abcdefghijklmnopqrstuvwxyz", "6@26"}, {"'abcdefghijklmnopqrstuvwxy", "6@25"},
            {"a\tb", "1@1"}, {"\u0080", "1@0"}, {"12\u007f", "1@2"}, {"abcdefghijklmnopqrstuvwxyz\n", "1@26"}, {"  \u001f=1", "1@2"},
            {"abc", "0@-1"},
        };
        for (String[] r : rows) {
            due("fault of " + r[0], b.faultOf(r[0]), r[1]);
        }
        due("fault(2)", b.x.fault(2), -1);
        due("fault(-1)", b.x.fault(-1), -1);
    }

    private static void enterThrows() {
        Bench.about("promise 4, exceptions");
        Bench b = new Bench().in("A1", "7");
        b.tape("=1+");
        int[][] none = {{0, 1}, {9, 1}, {1, 0}, {1, 7}, {-1, -1}, {Integer.MAX_VALUE, Integer.MIN_VALUE}};
        for (int[] cell : none) {
            due("enter of no cell", Bench.of(() -> b.x.enter(cell[0], cell[1])), "throws.IndexOutOfBoundsException");
        }
        due("tape", b.x.total(7), 3);
        due("fault(0), of the enter ahead", b.x.fault(0), 0);
        due("enter with a fault", Bench.of(() -> b.x.enter(1, 1)), "throws.IllegalArgumentException");
        due("tape", b.x.total(7), 0);
        due("fault(0)", b.x.fault(0), 1);
        due("fault(1)", b.x.fault(1), 3);
        due("cell", b.shows("A1"), "7");
        due("steps", b.x.total(4), 1);
        b.tape("8");
        due("enter of no cell", Bench.of(() -> b.x.enter(9, 9)), "throws.IndexOutOfBoundsException");
        due("fault(0), of the enter ahead", b.x.fault(0), 1);
        due("enter", Bench.of(() -> b.x.enter(1, 1)), 0);
        due("fault(0)", b.x.fault(0), 0);
        due("fault(1)", b.x.fault(1), -1);
    }

    private static void faultsOfKindOne() {
        Bench.about("promise 5, kind 1");
        String[][] rows = {
            {"=", "1@1"}, {"=1+", "1@3"}, {"  =1+", "1@5"}, {"=1+  ", "1@5"}, {"=+1", "1@1"}, {"=1 2", "1@3"}, {"=1 A1", "1@3"},
            {"=1=2=3", "1@4"}, {"=1< =2", "1@4"}, {"=1><2", "1@3"}, {"=(1", "1@3"}, {"=(1]", "1@3"}, {"=1)", "1@2"}, {"=()", "1@2"},
            {"=SUM", "1@4"}, {"=SUM+1", "1@4"}, {"=SUM 1", "1@5"}, {"=SUM()", "1@5"}, {"=SUM(1", "1@6"}, {"=SUM(1,", "1@7"},
            {"=SUM(1,)", "1@7"}, {"=SUM(1;2)", "1@6"}, {"=SUMS(1)", "1@1"}, {"=sum(1)", "1@1"}, {"=TRUE(1)", "1@5"}, {"=TRUES", "1@1"},
            {"=K1", "1@1"}, {"=A", "1@1"}, {"=AA1", "1@1"}, {"=A123", "1@1"}, {"=A1B", "1@1"}, {"=A1b", "1@3"}, {"=A$", "1@1"},
            {"=1+$", "1@3"}, {"=$A", "1@1"}, {"=$A1B", "1@1"}, {"=A1$", "1@3"}, {"=$$A1", "1@1"}, {"=$K1", "1@1"}, {"=#", "1@1"},
            {"=#RE", "1@1"}, {"=#REFX", "1@5"}, {"=#ref", "1@1"}, {"=1234567890123456", "1@16"}, {"=123456789012345", "0@-1"},
            {"=1 1234567890123456", "1@3"}, {"=A1@", "1@4"}, {"=A1@ 0", "1@4"}, {"=A1@x", "1@4"}, {"=A1 @0", "1@4"},
            {"=A1@000", "1@6"}, {"=A1@0@0", "1@5"}, {"=A1:B2", "1@3"}, {"=SUM((A1:B2))", "1@8"}, {"=SUM(1+A1:B2)", "1@9"},
            {"=SUM(-A1:B2)", "1@8"}, {"=SUM(A1 :B2)", "1@8"}, {"=SUM(A1: B2)", "1@8"}, {"=SUM(A1:", "1@8"}, {"=SUM(A1:B2C)", "1@8"},
            {"=SUM(A1:B234)", "1@8"}, {"=SUM(A1:K2)", "1@8"}, {"=SUM(A1:B2:C3)", "1@10"}, {"=SUM(A1@0:B2)", "1@9"},
            {"=SUM(A1:B2+1)", "1@10"}, {"=SUM(A1:B2@)", "1@11"}, {"=SUM(A1:B2@123)", "1@13"}, {"=\"abc", "1@5"}, {"=1&\"", "1@4"},
            {"=\"abcdefghijklmnopqrstuvwxy\"", "1@1"}, {"=\"abcdefghijklmnopqrstuvwxyz", "1@1"}, {"=\"abcdefghijklmnopqrstuvwx\"", "0@-1"},
            {"=\"abcdefghijklmnopqrstuvwx", "1@26"}, {"=\"a\tb\"", "1@3"}, {"=1\t", "1@2"}, {"=\u0080", "1@1"}, {"=1.5", "1@2"}, {"=!", "1@1"},
            {"=1,2", "1@2"}, {"=1;", "1@2"}, {"=-", "1@2"}, {"=1--", "1@4"}, {"=A1A1", "1@1"}, {"=\"a\"\"b\"", "1@4"}, {"==1", "1@1"},
            {"=IF(1", "1@5"}, {"=:A1", "1@1"}, {"=@1", "1@1"}, {"='a'", "1@1"},
        };
        Bench b = new Bench();
        for (String[] r : rows) {
            due("fault of " + r[0], b.faultOf(r[0]), r[1]);
        }
    }

    private static void tokens() {
        Bench.about("promise 4, tokens");
        Bench b = new Bench();
        String[][] rows = {
            {"= 1 + 2 ", "3"}, {"=1<=2", "3"}, {"=1<>2", "3"}, {"=1>-2", "4"}, {"=SUM ( A1 , 2 )", "3"}, {"=A01", "1"}, {"=$A$1", "1"},
            {"=A1@0", "1"}, {"=A1@00", "1"}, {"=SUM(B2:A1)", "2"}, {"=SUM($A1:B$2@0)", "2"}, {"=IF(TRUE,FALSE,#REF)", "4"}, {"=\"\"", "1"},
            {"=--1", "3"}, {"=((1))", "1"}, {"=- - 1", "3"}, {"=ROW(A1)", "2"}, {"=INDEX(#REF,1)", "3"}, {"=1&\"=\"", "3"}, {"=0000", "1"},
        };
        for (String[] r : rows) {
            due("enter of " + r[0], b.enter("F8", r[0]), r[1]);
        }
    }

    private static void faultsOfKindTwo() {
        Bench.about("promise 5, kind 2");
        Bench b = new Bench();
        String open = "(".repeat(20);
        String close = ")".repeat(20);
        due("20 (", b.faultOf("=" + open + "1" + close), "0@-1");
        due("21 (", b.faultOf("=(" + open + "1" + close + ")"), "2@21");
        due("21 ( without an end", b.faultOf("=(" + open), "2@21");
        due("20 -", b.faultOf("=" + "-".repeat(20) + "1"), "0@-1");
        due("21 -", b.faultOf("=" + "-".repeat(21) + "1"), "2@21");
        due("- in 20 (", b.faultOf("=" + open + "-1" + close), "2@21");
        due("a - of two in 20 (", b.faultOf("=" + open + "1-1" + close), "0@-1");
        due("a call in 20 (", b.faultOf("=" + open + "ABS(1)" + close), "2@24");
        due("a - is open until its sign is read", b.faultOf("=" + "(".repeat(19) + "-1+(2)" + ")".repeat(19)), "0@-1");
        due("20 calls", b.faultOf("=" + "ABS(".repeat(20) + "1" + close), "0@-1");
        due("21 calls", b.faultOf("=" + "ABS(".repeat(21) + "1" + close + ")"), "2@84");
        due("kind 1 ahead of it", b.faultOf("=1 1" + open + "("), "1@3");
    }

    private static void laterFaults() {
        Bench.about("promise 5, kinds 3 to 5");
        Bench b = new Bench();
        b.x.insert(0, 1);
        String[][] rows = {
            {"=A0", "3@1"}, {"=A9", "0@-1"}, {"=A10", "3@1"}, {"=G1", "3@1"}, {"=$J$1", "3@1"}, {"=1+ A9@0", "3@4"}, {"=A8@0", "0@-1"},
            {"=A1@1", "3@1"}, {"=SUM(A1:A10)", "3@5"}, {"=SUM(G1:A1)", "3@5"}, {"=SUM(1,A1:B2@7)", "3@7"}, {"=A10+", "1@5"},
            {"=J9+LEFT(1)", "3@1"}, {"=LEFT(J9)", "4@1"}, {"=LEFT(J9)+", "1@10"}, {"=ABS(1)+LEFT(1)", "4@8"}, {"=ABS(LEFT(1),2)", "4@1"},
            {"=IF(1,2)", "4@1"}, {"=IF(1,2,3,4)", "4@1"}, {"=SUM(1,2,3,4,5,6,7,8)", "0@-1"}, {"=SUM(1,2,3,4,5,6,7,8,9)", "4@1"},
            {"=NOT(1,2)", "4@1"}, {"=RIGHT(1)", "4@1"}, {"=LEN(A1:A2)", "4@1"}, {"=IF(A1:A2,1,2)", "4@1"}, {"=ISERR(A1:A2)", "4@1"},
            {"=INDEX(A1,1)", "4@1"}, {"=INDEX(1,1)", "4@1"}, {"=INDEX(A1:A2,A1:A2)", "4@1"}, {"=INDEX(A1:A2,1)", "0@-1"},
            {"=COUNTIF(A1,1)", "4@1"}, {"=COUNTIF(A1:A2,1)", "0@-1"}, {"=COUNTIF(#REF,1)", "0@-1"}, {"=MATCH(1,A1)", "4@1"},
            {"=MATCH(A1:A2,A1:A2)", "4@1"}, {"=MATCH(1,#REF)", "0@-1"}, {"=MATCH(#REF,A1:A2)", "0@-1"}, {"=ROW(A1:A2)", "4@1"},
            {"=ROW(1)", "4@1"}, {"=ROW(-A1)", "4@1"}, {"=ROW(A1+1)", "4@1"}, {"=COL(#REF)", "0@-1"}, {"=COL(A1@0)", "0@-1"},
            {"=LEFT(A1:A2,1)", "4@1"}, {"=AND(A1:A2)", "0@-1"}, {"=OR(A1:A2,1)", "0@-1"},
        };
        for (String[] r : rows) {
            due("fault of " + r[0], b.faultOf(r[0]), r[1]);
        }
        due("60 parts", b.faultOf("=" + "1+".repeat(29) + "-1"), "0@-1");
        due("61 parts", b.faultOf("=" + "1+".repeat(30) + "1"), "5@62");
        due("61 parts and blanks", b.faultOf(" =" + "1+".repeat(30) + "1 "), "5@64");
        due("61 parts and kind 3", b.faultOf("=" + "1+".repeat(30) + "J1"), "3@61");
        due("61 parts and kind 4", b.faultOf("=" + "1+".repeat(30) + "IF(1)"), "4@61");
        due("61 parts and kind 1", b.faultOf("=" + "1+".repeat(30) + "x"), "1@61");
    }

    private static void parts() {
        Bench.about("promise 4, parts");
        Bench b = new Bench();
        String[][] rows = {
            {"=1", "1"}, {"=-1", "2"}, {"=A1+A2*3", "5"}, {"=SUM(A1:A3)&\" in all\"", "4"}, {"=IF(A3<0,\"less\",\"more\")", "6"},
            {"=#REF", "1"}, {"=(TRUE)", "1"}, {"=SUM(1,2,A1:B2,#REF)", "5"},
        };
        int made = 0;
        for (String[] r : rows) {
            due("enter of " + r[0], b.enter("F8", r[0]), r[1]);
            made += Integer.parseInt(r[1]);
            due("total(6)", b.x.total(6), made);
        }
        b.enter("A1", "=1+");
        due("total(6) behind a fault", b.x.total(6), made);
    }

    /** 60000 PARTS are made by copies: FULL. */
    private static void full() {
        Bench.about("promises 4 and 10, FULL");
        Bench b = new Bench().in("A1", "=" + "1+".repeat(29) + "-1");
        b.x.copy(1, 1, 1, 1, 1, 2);
        b.x.copy(1, 1, 1, 2, 1, 3);
        b.x.copy(1, 1, 1, 2, 1, 5);
        for (int r = 2; r <= 8; r++) {
            b.x.copy(1, 1, 1, 6, r, 1);
        }
        due("48 cells of 60 parts", b.x.total(6), 48 * 60);
        for (int i = 0; i < 19; i++) {
            b.x.copy(1, 1, 8, 6, 1, 1);
        }
        due("parts", b.x.total(6), 57600);
        b.x.copy(1, 1, 6, 6, 1, 1);
        due("parts", b.x.total(6), 59760);
        due("copy of 5 cells", Bench.of(() -> b.x.copy(1, 1, 5, 1, 1, 6)), "throws.UnsupportedOperationException");
        due("parts", b.x.total(6), 59760);
        due("copy of 4 cells", Bench.of(() -> b.x.copy(1, 1, 4, 1, 1, 6)), 4);
        due("parts", b.x.total(6), 60000);
        int steps = b.x.total(4);
        due("copy when FULL", Bench.of(() -> b.x.copy(1, 1, 1, 1, 2, 2)), "throws.UnsupportedOperationException");
        due("enter when FULL", b.enter("A1", "=1"), "throws.UnsupportedOperationException");
        due("fault(0)", b.x.fault(0), 0);
        due("fault(1)", b.x.fault(1), -1);
        due("tape", b.x.total(7), 0);
        due("steps", b.x.total(4), steps);
        due("a fault when FULL", b.enter("A1", "=1+"), "throws.IllegalArgumentException");
        due("a NUMBER when FULL", b.enter("A1", "5"), 0);
        due("copy of a NUMBER when FULL", Bench.of(() -> b.x.copy(1, 1, 1, 1, 2, 2)), 1);
        due("outside is not counted", Bench.of(() -> b.x.copy(1, 1, 1, 2, 8, 6)), 1);
    }

    private static void written() {
        Bench.about("promise 30");
        Bench b = new Bench();
        String[][] rows = {
            {"= 1 + 2", "=1+2"}, {"=(1+2)+3", "=1+2+3"}, {"=1+(2+3)", "=1+(2+3)"}, {"=1-(2-3)", "=1-(2-3)"}, {"=(1*2)+3", "=1*2+3"},
            {"=1*(2+3)", "=1*(2+3)"}, {"=(1+2)*3", "=(1+2)*3"}, {"=1*(2*3)", "=1*(2*3)"}, {"=(1*2)/3", "=1*2/3"}, {"=-(1)", "=-1"},
            {"=-(-1)", "=--1"}, {"=-(1+2)", "=-(1+2)"}, {"=(-1)+2", "=-1+2"}, {"=1-(-1)", "=1--1"}, {"=-(1*2)", "=-(1*2)"}, {"=(-1)*2", "=-1*2"},
            {"=2*(-1)", "=2*-1"}, {"=(1&2)&3", "=1&2&3"}, {"=1&(2&3)", "=1&(2&3)"}, {"=(1&2)+3", "=(1&2)+3"}, {"=1&(2+3)", "=1&2+3"},
            {"=(1=2)=3", "=(1=2)=3"}, {"=1=(2=3)", "=1=(2=3)"}, {"=(1<2)&3", "=(1<2)&3"}, {"=(1&2)<>3", "=1&2<>3"}, {"=1%(2%3)", "=1%(2%3)"},
            {"=SUM((1=2),(3))", "=SUM(1=2,3)"}, {"=007", "=7"}, {"=000", "=0"}, {"=\"a b\"", "=\"a b\""}, {"=TRUE", "=TRUE"},
            {"=$A01", "=$A1"}, {"=SUM($B$02:A$1@00)", "=SUM($B$2:A$1@0)"}, {"=ROW((A1))", "=ROW(A1)"}, {"=#REF&#REF", "=#REF&#REF"},
            {"=IF( A1 >= 2 , LEFT( \"x\" , 1 ) , MATCH( 1 , A1:A2 ) )", "=IF(A1>=2,LEFT(\"x\",1),MATCH(1,A1:A2))"},
            {"=1<=2", "=1<=2"}, {"=1<2", "=1<2"}, {"=1>2", "=1>2"}, {"=-(\"a\"&1)", "=-(\"a\"&1)"}, {"=-(A1=1)", "=-(A1=1)"},
        };
        for (String[] r : rows) {
            due("written of " + r[0], b.again(r[0]), r[1]);
        }
        b.in("A1", "=B2");
        due("written(-1, 1, 1, -1)", b.x.written(-1, 1, 1, -1), -1);
        due("written(-1, 1, 1, 3)", b.x.written(-1, 1, 1, 3), -1);
        due("written(-1, 9, 1, 0)", b.x.written(-1, 9, 1, 0), -1);
        due("written(-2, 1, 1, 0)", b.x.written(-2, 1, 1, 0), -1);
        due("written(1, 1, 1, 0)", b.x.written(1, 1, 1, 0), -1);
        due("written(0, 1, 1, 0)", b.x.written(0, 1, 1, 0), -1);
        b.in("C1", "=SUM(B2:D4)+$B$2+B2@0").x.commit();
        b.x.insert(0, 2);
        b.x.move(1, 2, 5);
        due("behind acts", b.writes("B1"), "=SUM(E3:C5)+$E$3+B2@0");
        due("in the version", b.writes(1, "C1"), "=SUM(B2:D4)+$B$2+B2@0");
        b.x.remove(0, 3);
        due("not there any more", b.writes("B1"), "=SUM(#REF)+#REF+B2@0");
        due("in the version", b.writes(1, "C1"), "=SUM(B2:D4)+$B$2+B2@0");
        b.x.undo();
        due("there again", b.writes("B1"), "=SUM(E3:C5)+$E$3+B2@0");
    }
}
