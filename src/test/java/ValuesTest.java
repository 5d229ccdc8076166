/** Promises 27 to 29: what FORMULAS come to. */
public final class ValuesTest {
    public static void main(String[] args) {
        asked();
        signs();
        comparing();
        wanted();
        gathering();
        counting();
        searching();
        places();
        errorsFirst();
        circles();
        otherVersions();
        Bench.finish();
    }

    private static void due(String call, Object got, Object want) {
        Bench.due(call, got, want);
    }

    private static void all(Bench b, String[][] rows) {
        for (String[] r : rows) {
            due(r[0], b.comesTo(r[0]), r[1]);
        }
    }

    /** A1 12, A2 -5, A3 abc, A4 TRUE, A5 an ERROR, A6 nothing, A7 the TEXT without bytes, A8 FALSE. */
    private static Bench filled() {
        return new Bench().in("A1", "12").in("A2", "-5").in("A3", "abc").in("A4", "TRUE").in("A5", "=1/0").in("A7", "'").in("A8", "FALSE");
    }

    private static void asked() {
        Bench.about("promises 27 to 29");
        Bench b = filled();
        int[] kinds = {1, 1, 2, 3, 4, 0, 2, 3};
        long[] values = {12, -5, 3, 1, 2, 0, 0, 0};
        for (int r = 1; r <= 8; r++) {
            due("kind of A" + r, b.x.kind(-1, r, 1), kinds[r - 1]);
            due("value of A" + r, b.x.value(-1, r, 1), values[r - 1]);
        }
        int[][] none = {{-2, 1, 1}, {1, 1, 1}, {-1, 0, 1}, {-1, 9, 1}, {-1, 1, 0}, {-1, 1, 7}, {0, 9, 1}};
        for (int[] n : none) {
            due("kind of no cell", b.x.kind(n[0], n[1], n[2]), -1);
            due("value of no cell", b.x.value(n[0], n[1], n[2]), 0);
            due("letter of no cell", b.x.letter(n[0], n[1], n[2], 0), -1);
        }
        due("letter 0", b.x.letter(-1, 3, 1, 0), 97);
        due("letter 2", b.x.letter(-1, 3, 1, 2), 99);
        due("letter 3", b.x.letter(-1, 3, 1, 3), -1);
        due("letter -1", b.x.letter(-1, 3, 1, -1), -1);
        due("letter of a NUMBER", b.x.letter(-1, 1, 1, 0), -1);
        due("letter of a TRUTH", b.x.letter(-1, 4, 1, 0), -1);
        due("letter of nothing", b.x.letter(-1, 6, 1, 0), -1);
    }

    private static void signs() {
        Bench.about("signs");
        all(filled(), new String[][] {
            {"=A1+A2*3", "-3"}, {"=A6", "0"}, {"=A6+1", "1"}, {"=-A6", "0"}, {"=-A2", "5"}, {"=--A2", "-5"}, {"=7/2", "3"}, {"=-7/2", "-3"},
            {"=7/-2", "-3"}, {"=7%3", "1"}, {"=-7%3", "-1"}, {"=7%-3", "1"}, {"=1/0", "DIV"}, {"=1%0", "DIV"}, {"=1/A6", "DIV"},
            {"=999999999999999+1", "1000000000000000"}, {"=999999999999999+2", "BIG"}, {"=-999999999999999-1", "-1000000000000000"},
            {"=-999999999999999-2", "BIG"}, {"=100000000*10000000", "1000000000000000"}, {"=100000000*10000001", "BIG"},
            {"=-100000000*10000000", "-1000000000000000"}, {"=-100000000*10000001", "BIG"}, {"=999999999999999*999999999999999", "BIG"},
            {"=0*999999999999999", "0"}, {"=1+\"1\"", "TYPE"}, {"=A3+1", "TYPE"}, {"=1+A4", "TYPE"}, {"=-A3", "TYPE"}, {"=-TRUE", "TYPE"},
            {"=A7*1", "TYPE"}, {"=A3/0", "TYPE"}, {"=2-3-4", "-5"}, {"=2*3%4", "2"}, {"=12&A3", "'12abc"}, {"=A6&\"\"", "'"},
            {"=A2&A4&A8", "'-5TRUEFALSE"}, {"=1+2&3+4", "'37"}, {"=\"123456789012\"&\"123456789012\"", "'123456789012123456789012"},
            {"=\"123456789012\"&\"1234567890123\"", "LONG"}, {"=-999999999999999-1&\"\"", "'-1000000000000000"}, {"=0&\"\"", "'0"},
            {"=(((1)))", "1"}, {"=\"a\"", "'a"}, {"=TRUE", "TRUE"}, {"=#REF", "REF"},
        });
    }

    private static void comparing() {
        Bench.about("signs that compare");
        all(filled(), new String[][] {
            {"=1=1", "TRUE"}, {"=1<>1", "FALSE"}, {"=1<2", "TRUE"}, {"=2<=2", "TRUE"}, {"=1>2", "FALSE"}, {"=2>=3", "FALSE"},
            {"=\"a\"<\"b\"", "TRUE"}, {"=\"a\"<\"ab\"", "TRUE"}, {"=\"ab\">\"a\"", "TRUE"}, {"=\"B\"<\"a\"", "TRUE"}, {"=\"a\"=\"a\"", "TRUE"},
            {"=FALSE<TRUE", "TRUE"}, {"=TRUE<=FALSE", "FALSE"}, {"=A6=0", "TRUE"}, {"=A6=\"\"", "TRUE"}, {"=A6=FALSE", "TRUE"}, {"=A6=TRUE", "FALSE"},
            {"=A6<1", "TRUE"}, {"=A6<\"a\"", "TRUE"}, {"=TRUE>A6", "TRUE"}, {"=A6=B6", "TRUE"}, {"=A6<>B6", "FALSE"}, {"=A6<=B6", "TRUE"},
            {"=A6>B6", "FALSE"}, {"=1=\"1\"", "FALSE"}, {"=1<>\"1\"", "TRUE"}, {"=1<\"1\"", "TYPE"}, {"=TRUE>=1", "TYPE"}, {"=TRUE=1", "FALSE"},
            {"=A5=1", "DIV"}, {"=#REF=A5", "REF"}, {"=A5=#REF", "DIV"}, {"=-1<1", "TRUE"}, {"=(1<2)=(2<3)", "TRUE"},
        });
    }

    private static void wanted() {
        Bench.about("calls of one and two");
        all(filled(), new String[][] {
            {"=ABS(A2)", "5"}, {"=ABS(A6)", "0"}, {"=ABS(A3)", "TYPE"}, {"=ABS(A5)", "DIV"}, {"=NOT(A4)", "FALSE"}, {"=NOT(A6)", "TRUE"},
            {"=NOT(1)", "TYPE"}, {"=NOT(\"\")", "TYPE"}, {"=LEN(A3)", "3"}, {"=LEN(A2)", "2"}, {"=LEN(A4)", "4"}, {"=LEN(A6)", "0"},
            {"=LEN(A5)", "DIV"}, {"=LEFT(A3,2)", "'ab"}, {"=RIGHT(A3,2)", "'bc"}, {"=LEFT(A3,0)", "'"}, {"=RIGHT(A3,9)", "'abc"},
            {"=LEFT(A3,999999999999999)", "'abc"}, {"=LEFT(A3,-1)", "TYPE"}, {"=RIGHT(A3,-1)", "TYPE"}, {"=LEFT(A3,\"1\")", "TYPE"},
            {"=LEFT(A3,A6)", "'"}, {"=LEFT(A1,1)", "'1"}, {"=RIGHT(A2,1)", "'5"}, {"=LEFT(A8,3)", "'FAL"}, {"=LEFT(A6,3)", "'"},
            {"=LEFT(A5,#REF)", "DIV"}, {"=LEFT(1,#REF)", "REF"}, {"=IF(A4,1,2)", "1"}, {"=IF(A8,1,2)", "2"}, {"=IF(A6,1,2)", "2"},
            {"=IF(1,1,2)", "TYPE"}, {"=IF(\"\",1,2)", "TYPE"}, {"=IF(A5,1,2)", "DIV"}, {"=IF(TRUE,1,A5)", "1"}, {"=IF(FALSE,A5,2)", "2"},
            {"=IF(TRUE,A5,2)", "DIV"}, {"=IF(TRUE,A6,2)", "0"}, {"=IF(TRUE,A6,2)&\"x\"", "'x"}, {"=IF(TRUE,\"y\",2)", "'y"}, {"=ISERR(A5)", "TRUE"},
            {"=ISERR(#REF)", "TRUE"}, {"=ISERR(A1)", "FALSE"}, {"=ISERR(A6)", "FALSE"}, {"=NOT(ISERR(1+\"\"))", "FALSE"},
        });
    }

    private static void gathering() {
        Bench.about("AND OR SUM MIN MAX");
        all(filled().in("B1", "=1/0").in("B2", "=#REF"), new String[][] {
            {"=SUM(A1:A3)", "7"}, {"=SUM(A1:A2,A1,3)", "22"}, {"=SUM(A3:A4)", "0"}, {"=SUM(A3)", "TYPE"}, {"=SUM(A4)", "TYPE"}, {"=SUM(A6)", "0"},
            {"=SUM(\"1\")", "TYPE"}, {"=SUM(A1:A5)", "DIV"}, {"=SUM(A6:A8)", "0"}, {"=SUM(A2:A1)", "7"}, {"=SUM(999999999999999,2,-2)", "999999999999999"},
            {"=SUM(999999999999999,2)", "BIG"}, {"=SUM(999999999999999,1)", "1000000000000000"}, {"=MIN(A1:A4)", "-5"}, {"=MAX(A1:A4)", "12"},
            {"=MIN(A3:A4)", "NONE"}, {"=MAX(A6:A7)", "NONE"}, {"=MIN(A6)", "0"}, {"=MAX(A2,A6)", "0"}, {"=MAX(A2,A6:A7)", "-5"}, {"=MIN(A3,1)", "TYPE"},
            {"=AND(A4)", "TRUE"}, {"=AND(A4,A8)", "FALSE"}, {"=AND(A1:A4)", "TRUE"}, {"=AND(A1:A3)", "TRUE"}, {"=AND(A6:A8)", "FALSE"}, {"=AND(A6)", "FALSE"},
            {"=AND(1)", "TYPE"}, {"=AND(FALSE,1)", "TYPE"}, {"=AND(FALSE,A5)", "DIV"}, {"=OR(A6)", "FALSE"}, {"=OR(A1:A3)", "FALSE"}, {"=OR(A1:A4)", "TRUE"},
            {"=OR(A8,A4)", "TRUE"}, {"=OR(TRUE,\"\")", "TYPE"}, {"=OR(TRUE,A4:A5)", "DIV"}, {"=OR(A8)", "FALSE"},
            {"=SUM(\"x\",A1:A5)", "TYPE"}, {"=SUM(A1:A5,\"x\")", "DIV"}, {"=SUM(A1:A5,#REF)", "REF"}, {"=SUM(B1:B2)", "DIV"}, {"=SUM(B2:B2,B1:B1)", "REF"},
            {"=SUM(A1:A5,\"x\",B2)", "REF"}, {"=SUM(1,2,3,4,5,6,7,8)", "36"}, {"=MAX(-1-2,-5)", "-3"},
        });
    }

    private static void counting() {
        Bench.about("COUNT");
        Bench b = filled();
        all(b, new String[][] {
            {"=COUNT(A1:A8)", "2"}, {"=COUNT(A1,A2,A3,A4,A5,A6)", "2"}, {"=COUNT(1,\"1\",TRUE,1/0)", "1"}, {"=COUNT(A6)", "0"}, {"=COUNT(#REF)", "REF"},
            {"=COUNT(1/0,#REF)", "REF"}, {"=COUNT(#REF+1)", "0"}, {"=COUNT(-#REF)", "0"}, {"=COUNT(IF(TRUE,#REF,1))", "0"}, {"=COUNT((#REF))", "REF"},
            {"=COUNT(A5)", "0"},
        });
        b.in("B1", "=COUNT(C3)").in("B2", "=COUNT(C1:C3)").in("B6", "=COUNT(C3+1,5)").in("B4", "=SUM(\"x\",C1:C3)").in("B5", "=SUM(\"x\",C3)");
        b.in("C3", "=#REF");
        due("a SPOT with an ERROR", b.shows("B1"), "0");
        b.x.remove(0, 8);
        b.in("D1", "=COUNT(C3@0)");
        due("a SPOT that is there", b.shows("D1"), "0");
        b.x.remove(0, 3);
        due("a SPOT that is not there", b.shows("B1"), "REF");
        due("an AREA that is not there", b.shows("B2"), "REF");
        due("a SPOT that is not there in a sign", b.shows("B5"), "1");
        due("an AREA comes in its turn", b.shows("B3"), "TYPE");
        due("a SPOT comes first", b.shows("B4"), "REF");
    }

    private static void searching() {
        Bench.about("MATCH COUNTIF INDEX");
        Bench b = filled().in("B1", "0").in("B2", "12").in("B3", "=A3");
        all(b, new String[][] {
            {"=MATCH(12,A1:B8)", "1"}, {"=MATCH(-5,A1:B8)", "3"}, {"=MATCH(\"abc\",A1:A8)", "3"}, {"=MATCH(\"abc\",A1:B8)", "5"},
            {"=MATCH(TRUE,A1:A8)", "4"}, {"=MATCH(FALSE,A1:A8)", "6"}, {"=MATCH(0,A1:A8)", "6"}, {"=MATCH(\"\",A1:A8)", "6"}, {"=MATCH(A6,A1:B8)", "2"},
            {"=MATCH(99,A1:A8)", "NONE"}, {"=MATCH(A5,A1:A8)", "DIV"}, {"=MATCH(1,#REF)", "REF"}, {"=MATCH(A5,#REF)", "DIV"}, {"=MATCH(12,A2:B1)", "1"},
            {"=COUNTIF(A1:B8,12)", "2"}, {"=COUNTIF(A1:B8,\"abc\")", "2"}, {"=COUNTIF(A1:A8,0)", "1"}, {"=COUNTIF(A1:A8,A6)", "3"},
            {"=COUNTIF(A1:A8,FALSE)", "2"}, {"=COUNTIF(A1:A8,A5)", "DIV"}, {"=COUNTIF(#REF,1)", "REF"}, {"=COUNTIF(#REF,A5)", "DIV"},
            {"=INDEX(A1:B8,1)", "12"}, {"=INDEX(A1:B8,2)", "0"}, {"=INDEX(A1:B8,3)", "-5"}, {"=INDEX(A1:B8,6)", "'abc"}, {"=INDEX(A1:B8,16)", "0"},
            {"=INDEX(A1:B8,17)", "REF"}, {"=INDEX(A1:B8,0)", "REF"}, {"=INDEX(A1:B8,A6)", "REF"}, {"=INDEX(A1:B8,-1)", "REF"}, {"=INDEX(A1:A8,5)", "DIV"},
            {"=INDEX(A1:A8,6)&\"x\"", "'x"}, {"=INDEX(A1:A8,\"1\")", "TYPE"}, {"=INDEX(#REF,1)", "REF"}, {"=INDEX(#REF,\"1\")", "REF"},
            {"=INDEX(#REF,A5)", "DIV"}, {"=INDEX(A1:A8,999999999999999)", "REF"}, {"=INDEX(A1:A8,4)", "TRUE"},
        });
    }

    private static void places() {
        Bench.about("SPOTS, AREAS, ROW, COL");
        Bench b = filled();
        all(b, new String[][] {{"=ROW(A3)", "3"}, {"=COL(C3)", "3"}, {"=ROW(F8)", "8"}, {"=ROW(#REF)", "REF"}, {"=COL(A5)", "1"}, {"=ROW($B$2@0)", "2"}});
        b.in("C1", "=ROW(B3)").in("C2", "=COL(B3)").in("C8", "=SUM(A1:A2)").in("D1", "=B3&A1").in("D8", "=ROW(B3@0)");
        b.x.insert(0, 2);
        due("ROW moves", b.shows("C1"), "4");
        b.in("A2", "100");
        due("the AREA has the new row", b.shows("C9"), "107");
        b.x.insert(1, 1);
        due("COL moves", b.shows("D3"), "3");
        b.x.move(0, 3, 1);
        due("AREA turned round", b.writes("D9"), "=SUM(B2:B1)");
        due("its cells", b.shows("D9"), "7");
        b.x.remove(1, 3);
        due("ROW without its column", b.shows("C2"), "REF");
        due("COL without its column", b.shows("C1"), "REF");
        due("a SPOT that is not there", b.shows("D2"), "REF");
        due("ROW in a version", b.shows("D9"), "3");
        b.x.undo();
        due("COL again", b.shows("D1"), "3");
    }

    private static void errorsFirst() {
        Bench.about("ERRORS, the first one");
        all(filled(), new String[][] {
            {"=1/0+#REF", "DIV"}, {"=#REF+1/0", "REF"}, {"=\"x\"+1/0", "DIV"}, {"=(\"x\"+1)+1/0", "TYPE"}, {"=\"x\"&1/0", "DIV"}, {"=-(1/0)", "DIV"},
            {"=ISERR(1/0)+1", "TYPE"}, {"=IF(ISERR(A5),\"e\",A5)", "'e"}, {"=SUM(1/0,\"x\")", "DIV"}, {"=SUM(\"x\",1/0)", "DIV"},
        });
    }

    private static void circles() {
        Bench.about("CIRCLE");
        Bench b = new Bench().in("A1", "=A1");
        due("itself", b.shows("A1"), "CIRCLE");
        b.in("A1", "=ROW(A1)+COL(A1)");
        due("not in ROW and COL", b.shows("A1"), "2");
        b.in("A1", "=A1@0");
        due("not with @", b.shows("A1"), "0");
        b.in("A1", "=IF(TRUE,1,A2)").in("A2", "=A1");
        due("in parts that are not worked out", b.shows("A1") + b.shows("A2"), "CIRCLECIRCLE");
        b.in("A1", "=COUNT(B1:C3)").in("A2", "").in("C3", "=ISERR(A1)");
        due("over an AREA", b.shows("A1") + b.shows("C3"), "CIRCLECIRCLE");
        b.in("D1", "=C3").in("D2", "=ISERR(D1)").in("D3", "=IF(D2,7,C3)");
        due("what looks at one", b.column('D', 1, 3), "CIRCLE TRUE 7");
        b.in("C3", "5");
        due("no more", b.shows("A1"), "1");
        Bench c = new Bench();
        c.x.insert(1, 7);
        c.x.insert(1, 8);
        c.x.insert(1, 9);
        c.x.insert(1, 10);
        for (int i = 9; i <= 32; i++) {
            c.x.insert(0, i);
        }
        c.in("A1", "=J32+1").in("J32", "1").in("B1", "=A1+1");
        c.x.copy(1, 2, 1, 2, 1, 3);
        c.x.copy(1, 2, 1, 3, 1, 4);
        c.x.copy(1, 2, 1, 5, 1, 6);
        c.x.copy(1, 2, 1, 2, 1, 10);
        c.in("A2", "=J1+1");
        c.x.copy(1, 2, 1, 10, 2, 2);
        for (int r = 3; r <= 32; r++) {
            c.x.copy(2, 1, 2, 10, r, 1);
        }
        due("320 cells in a circle", c.shows("A1") + c.shows("J32"), "CIRCLECIRCLE");
        c.in("A1", "1");
        due("a way over 320 cells", c.shows("J32"), "320");
    }

    private static void otherVersions() {
        Bench.about("@");
        Bench b = new Bench().in("A1", "1").in("B1", "=A1+1");
        b.x.commit();
        b.in("A1", "10").in("C1", "=B1@1+B1").in("C2", "=SUM(A1:B1@1)");
        due("both", b.shows("C1"), "13");
        due("AREA", b.shows("C2"), "3");
        b.x.commit();
        b.x.remove(0, 1);
        b.in("D1", "=C1@2").in("D2", "=INDEX(A1:C2@2,3)");
        due("a version that looks at a version", b.shows("D1") + b.shows("D2"), "1313");
        due("in the version", b.shows(2, "C1"), "13");
        due("in the first version", b.shows(1, "B1"), "2");
        due("still there", b.shows("C1"), "3");
        due("nothing at the beginning", b.shows(0, "A1"), "nothing");
        Bench c = new Bench().in("A1", "=2+3");
        c.x.commit();
        c.in("A1", "=A1@1*2");
        c.x.commit();
        c.in("A1", "=A1@2*2");
        c.x.commit();
        c.in("A1", "=A1@3+1");
        due("over versions that were not asked yet", c.shows("A1"), "21");
    }
}
