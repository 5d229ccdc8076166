/** Each sentence that names a boundary case of VALUES: what FORMULAS come to, and how values are asked for. */
public final class EdgesOfValuesTest {
    private static final String ABC = "abcdefghijklmnopqrstuvwxyz";
    /** 10^15 and its negative, which no NUMBER of 15 digits is. */
    private static final String MOST = "(999999999999999+1)";
    private static final String LEAST = "(-999999999999999-1)";

    public static void main(String[] args) {
        kindsOfValues();
        nothingBecomesZero();
        firstError();
        spots();
        notYetThere();
        areas();
        numbersWanted();
        bounds();
        divisions();
        textsWanted();
        cutTexts();
        truthsWanted();
        comparisons();
        ifs();
        gatherings();
        counts();
        searches();
        index();
        rowAndColumn();
        circles();
        kind();
        value();
        letter();
        Bench.finish();
    }

    private static void due(String call, Object got, Object want) {
        Bench.due(call, got, want);
    }

    /** Rows of a formula and what it comes to. */
    private static void comesTo(Bench b, String... rows) {
        for (int i = 0; i + 1 < rows.length; i += 2) {
            due(rows[i], b.comesTo(rows[i]), rows[i + 1]);
        }
    }

    /** A1 nothing, A2 7, A3 'x, A4 TRUE, A5 DIV, A6 FALSE, A7 -3, A8 CIRCLE; column B nothing. */
    private static Bench mixed() {
        return new Bench().in("A2", "7").in("A3", "x").in("A4", "TRUE").in("A5", "=1/0").in("A6", "FALSE").in("A7", "-3").in("A8", "=A8");
    }

    private static void kindsOfValues() {
        Said.term(3, "VALUES: nothing, a NUMBER, TEXT, TRUTH, or an ERROR: 1 REF, 2 DIV, 3 TYPE, 4 BIG, 5 LONG, 6 CIRCLE, 7 NONE.");
        Bench b = new Bench();
        String[] formulas = {"=#REF", "=1/0", "=1+\"x\"", "=" + MOST + "+1", "=\"" + ABC.substring(0, 24) + "\"&1", "=F8", "=MIN(A1:A2)"};
        for (int i = 0; i < formulas.length; i++) {
            b.in("F8", formulas[i]);
            due("kind of " + formulas[i], b.x.kind(-1, 8, 6), 4);
            due("value of " + formulas[i], b.x.value(-1, 8, 6), i + 1);
        }
    }

    private static void nothingBecomesZero() {
        Said.term(3, "A cell's VALUE is its content, or what its FORMULA comes to; if that is nothing, it is the NUMBER 0.");
        Bench b = mixed();
        due("A1", b.shows("A1"), "nothing");
        comesTo(b, "=A1", "0", "=(B1)", "0", "=IF(TRUE,A1,1)", "0", "=INDEX(A1:A2,1)", "0", "=A1@0", "0");
        comesTo(b, "=IF(TRUE,A1,1)&\"\"", "'", "=LEN(INDEX(A1:A2,1))", "0", "=COUNT(A1)", "0", "=IF(TRUE,A1,1)=\"\"", "TRUE");
        b.in("B1", "=A1");
        comesTo(b, "=B1&\"\"", "'0", "=COUNT(B1)", "1", "=B1=\"\"", "FALSE");
    }

    private static void firstError() {
        Said.term(3, "Of a sign or call all parts but AREAS are worked out first, from the left: the first ERROR of these is what it comes to, where nothing else is said");
        Bench b = mixed();
        comesTo(b, "=1/0+#REF", "DIV", "=#REF+1/0", "REF", "=\"x\"+1/0", "DIV", "=1/0&#REF", "DIV", "=#REF=1/0", "REF", "=#REF<1", "REF", "=\"x\"<#REF", "REF",
                "=-#REF", "REF", "=SUM(\"x\",1/0)", "DIV", "=SUM(1/0,#REF)", "DIV", "=SUM(A8:A8,1/0)", "DIV", "=AND(1,#REF)", "REF", "=OR(TRUE,#REF)", "REF",
                "=MIN(A1:A2,#REF)", "REF", "=LEFT(#REF,1/0)", "REF", "=LEFT(1/0,#REF)", "DIV", "=LEFT(\"x\",1/0)", "DIV", "=NOT(1/0)", "DIV", "=LEN(1/0)", "DIV",
                "=ABS(#REF)", "REF", "=MATCH(1/0,#REF)", "DIV", "=MATCH(1/0,A1:A8)", "DIV", "=INDEX(#REF,1/0)", "DIV", "=INDEX(A1:A8,1/0)", "DIV",
                "=COUNTIF(#REF,1/0)", "DIV", "=COUNTIF(A1:A8,1/0)", "DIV", "=IF(1/0,#REF,#REF)", "DIV", "=(1/0+1)+#REF", "DIV", "=1/0=1/0", "DIV");

        Said.term(3, "then what is wanted of them is looked at, and AREAS are gone over, from the left: the first ERROR met so.");
        comesTo(b, "=SUM(\"x\",A5:A5)", "TYPE", "=SUM(A5:A5,\"x\")", "DIV", "=SUM(A5:A5,A8:A8)", "DIV", "=SUM(A8:A8,A5:A5)", "CIRCLE", "=AND(A5:A8,7)", "DIV",
                "=AND(7,A5:A8)", "TYPE", "=MAX(A1:A8)", "DIV", "=MAX(A6:A8)", "CIRCLE", "=OR(A8:A5)", "DIV");
        b.x.insert(0, 1);
        b.in("B1", "=SUM(C1:D1,A6:A6)").in("B2", "=SUM(A6:A6,C1:D1)").in("B3", "=SUM(\"x\",C1:D1)").in("B4", "=INDEX(C1:D1,\"x\")");
        b.x.remove(1, 4);
        due("an AREA that is not there, from the left", b.shows("B1") + " " + b.shows("B2") + " " + b.shows("B3") + " " + b.shows("B4"), "REF DIV TYPE REF");
    }

    private static void spots() {
        Said.term(3, "A SPOT: the value of its cell, in the sheet that the FORMULA is in, or in version v; REF, if that has not the row or column any more (or has them not yet).");
        Bench b = new Bench().in("A1", "one").in("B1", "=A1").in("C1", "=A1@0").in("D1", "=B2");
        b.x.commit();
        b.in("A1", "two").in("E1", "=A1@1").in("F1", "=B1@1");
        due("B1 C1 E1 F1", b.shows("B1") + b.shows("C1") + b.shows("E1") + b.shows("F1"), "'two0'one'one");
        due("B1 in version 1", b.shows(1, "B1"), "'one");
        b.x.remove(0, 2);
        due("without the row", b.shows("D1"), "REF");
        due("in version 1", b.shows(1, "D1"), "0");
        b.x.undo();
        b.x.remove(1, 1);
        due("without the column", b.shows("A1") + b.shows("D1") + b.shows("E1"), "REF'one'one");
        b.x.undo();
        due("with it again", b.shows("B1"), "'two");

        Bench chain = new Bench().in("A1", "1");
        for (int v = 1; v < 39; v++) {
            chain.x.commit();
            chain.in("A1", "=A1@" + v + "+1");
        }
        chain.x.commit();
        due("over 39 versions, of which none was asked", chain.shows("A1"), "39");
        chain.in("B1", "=INDEX(A1:A2@20,1)+A1@39");
        due("two of them", chain.shows("B1") + " " + chain.shows(7, "A1"), "59 7");

        Said.term(3, "#REF: REF.");
        comesTo(b, "=#REF", "REF", "=ISERR(#REF)", "TRUE");
    }

    private static void notYetThere() {
        Said.term(3, "REF, if that has not the row or column any more (or has them not yet).");
        Bench b = new Bench();
        b.x.branch(1);
        b.x.insert(0, 9);
        b.in("A9", "late").x.commit();
        b.in("A1", "=A9").in("B1", "=SUM(A8:A9)").in("C1", "=ROW(A9)").x.commit();
        b.x.go(1);
        due("pick(2)", b.x.pick(2), 0);
        due("not yet there", b.shows("A1") + b.shows("B1") + b.shows("C1"), "REFREFREF");
        due("written", b.writes("A1") + b.writes("B1"), "=#REF=SUM(#REF)");
        due("pick(1)", b.x.pick(1), 0);
        due("there", b.shows("A1") + b.shows("B1") + b.shows("C1"), "'late09");
        due("written", b.writes("A1") + b.writes("B1"), "=A9=SUM(A8:A9)");
    }

    private static void areas() {
        Said.term(3, "An AREA: its cells, row by row from the top, each from the left, of the rectangle between its CORNERS as they lie then in its sheet; REF, if one of them is not there.");
        String[] places = {"B2:C3", "C3:B2", "B3:C2", "C2:B3"};
        for (String place : places) {
            Bench b = new Bench().in("B2", "1").in("C2", "2").in("B3", "3").in("C3", "4");
            b.in("A1", "=INDEX(" + place + ",1)*1000+INDEX(" + place + ",2)*100+INDEX(" + place + ",3)*10+INDEX(" + place + ",4)");
            due(place, b.shows("A1"), "1234");
        }
        Bench b = new Bench();
        for (int r = 1; r <= 5; r++) {
            b.in("A" + r, String.valueOf(r));
        }
        b.in("B1", "=SUM(A2:A4)").in("C1", "=SUM(A3:A3)").in("D1", "=SUM(A2:A4@0)");
        due("three", b.shows("B1"), "9");
        b.x.move(0, 2, 5);
        due("a CORNER that was moved", b.shows("B1") + " " + b.writes("B1"), "11 =SUM(A5:A3)");
        b.x.undo();
        b.x.insert(0, 3);
        b.in("A3", "100");
        due("with one put in", b.shows("B1"), "109");
        b.x.remove(0, 4);
        due("with one taken out between", b.shows("B1") + " " + b.shows("C1"), "106 REF");
        b.x.remove(0, 2);
        due("with a CORNER taken out", b.shows("B1"), "REF");
        due("in version 0", b.shows("D1"), "0");
    }

    private static void numbersWanted() {
        Said.term(3, "A NUMBER is wanted by + - * / % - ABS, and by SUM, MIN, MAX of what is no AREA: nothing is 0, what else is no NUMBER: TYPE.");
        Bench b = mixed();
        for (String sign : new String[] {"+", "-", "*", "/", "%"}) {
            comesTo(b, "=1" + sign + "\"1\"", "TYPE", "=\"1\"" + sign + "1", "TYPE", "=1" + sign + "TRUE", "TYPE", "=FALSE" + sign + "1", "TYPE",
                    "=\"\"" + sign + "1", "TYPE");
        }
        comesTo(b, "=A1+1", "1", "=1+A1", "1", "=A1-1", "-1", "=A1*5", "0", "=A1/5", "0", "=A1%5", "0", "=-A1", "0", "=-\"1\"", "TYPE", "=-TRUE", "TYPE",
                "=ABS(A1)", "0", "=ABS(-5)", "5", "=ABS(\"x\")", "TYPE", "=ABS(FALSE)", "TYPE");
        for (String name : new String[] {"SUM", "MIN", "MAX"}) {
            comesTo(b, "=" + name + "(A1)", "0", "=" + name + "(\"1\")", "TYPE", "=" + name + "(TRUE)", "TYPE", "=" + name + "(A3)", "TYPE", "=" + name + "(1,A4)", "TYPE");
        }
        comesTo(b, "=MIN(5,A1)", "0", "=MAX(-5,A1)", "0", "=SUM(5,A1)", "5");
    }

    private static void bounds() {
        Said.term(3, "Beyond 10^15: BIG (of SUM all together).");
        Bench b = new Bench();
        comesTo(b, "=999999999999999+1", "1000000000000000", "=" + MOST + "+1", "BIG", "=" + LEAST + "-1", "BIG", "=-999999999999999-1", "-1000000000000000",
                "=" + MOST + "-" + MOST, "0", "=" + MOST + "+" + MOST, "BIG", "=" + LEAST + "+" + LEAST, "BIG", "=" + LEAST + "-" + MOST, "BIG",
                "=-" + MOST, "-1000000000000000", "=-" + LEAST, "1000000000000000", "=ABS(" + LEAST + ")", "1000000000000000",
                "=" + MOST + "*1", "1000000000000000", "=" + MOST + "*-1", "-1000000000000000", "=" + MOST + "*2", "BIG", "=" + LEAST + "*2", "BIG",
                "=100000000000000*10", "1000000000000000", "=100000000000000*-10", "-1000000000000000", "=200000000000000*5", "1000000000000000",
                "=31622776*31622776", "999999961946176", "=31622777*31622777", "BIG", "=31622777*-31622777", "BIG", "=" + MOST + "*0", "0", "=0*" + LEAST, "0",
                "=4294967296*4294967296", "BIG", "=4294967296*8589934592", "BIG", "=3037000500*6074001000", "BIG", "=" + MOST + "*" + MOST, "BIG",
                "=" + LEAST + "/-1", "1000000000000000", "=" + LEAST + "%-1", "0", "=" + MOST + "+1-1", "BIG");
        comesTo(b, "=SUM(" + MOST + "," + MOST + "," + LEAST + ")", "1000000000000000", "=SUM(" + MOST + ",1)", "BIG", "=SUM(" + LEAST + ",-1)", "BIG",
                "=SUM(" + MOST + ",1,-1)", "1000000000000000", "=SUM(" + LEAST + ")", "-1000000000000000", "=MIN(" + MOST + ")", "1000000000000000",
                "=MAX(" + LEAST + ")", "-1000000000000000");
        Bench wide = new Bench();
        for (int n = 0; n < 24; n++) {
            wide.x.insert(0, 1);
        }
        wide.in("A1", "=" + MOST).in("B1", "=SUM(A1:A32)");
        wide.x.copy(1, 1, 1, 1, 2, 1);
        wide.x.copy(1, 1, 2, 1, 3, 1);
        wide.x.copy(1, 1, 4, 1, 5, 1);
        wide.x.copy(1, 1, 8, 1, 9, 1);
        wide.x.copy(1, 1, 16, 1, 17, 1);
        due("32 of 10^15", wide.shows("B1"), "BIG");
    }

    private static void divisions() {
        Said.term(3, "/ and % towards 0, by 0 DIV; the rest has the sign of what is divided.");
        comesTo(new Bench(), "=7/2", "3", "=-7/2", "-3", "=7/-2", "-3", "=-7/-2", "3", "=1/2", "0", "=-1/2", "0", "=7%2", "1", "=-7%2", "-1", "=7%-2", "1",
                "=-7%-2", "-1", "=6%3", "0", "=-6%3", "0", "=1/0", "DIV", "=0/0", "DIV", "=1%0", "DIV", "=0%0", "DIV", "=1/A1", "DIV", "=1%A1", "DIV", "=A1/1", "0",
                "=1/(1-1)", "DIV", "=\"x\"/0", "TYPE");
    }

    private static void textsWanted() {
        Said.term(3, "A TEXT is wanted by & LEN LEFT RIGHT (their first): nothing is the TEXT without bytes, a NUMBER its decimals (with - ahead), a TRUTH TRUE or FALSE.");
        Bench b = mixed();
        comesTo(b, "=A1&A1", "'", "=A1&\"x\"", "'x", "=\"x\"&A1", "'x", "=1&2", "'12", "=-5&0", "'-50", "=TRUE&FALSE", "'TRUEFALSE", "=" + MOST + "&\"\"", "'1000000000000000",
                "=" + LEAST + "&\"\"", "'-1000000000000000", "=LEN(A1)", "0", "=LEN(0)", "1", "=LEN(-5)", "2", "=LEN(10)", "2", "=LEN(9)", "1", "=LEN(TRUE)", "4", "=LEN(FALSE)", "5",
                "=LEN(\"\")", "0", "=LEN(" + LEAST + ")", "17", "=LEFT(TRUE,2)", "'TR", "=RIGHT(FALSE,2)", "'SE", "=LEFT(-15,2)", "'-1", "=RIGHT(-15,2)", "'15", "=LEFT(A1,1)", "'");

        Said.term(3, "& of more than 24 bytes: LONG.");
        String most = ABC.substring(0, 24);
        comesTo(b, "=\"" + most + "\"&\"\"", "'" + most, "=\"\"&\"" + most + "\"", "'" + most, "=\"" + most + "\"&A1", "'" + most, "=\"" + most + "\"&\"y\"", "LONG",
                "=1&\"" + most + "\"", "LONG", "=\"" + ABC.substring(0, 12) + "\"&\"" + ABC.substring(12, 24) + "\"", "'" + most,
                "=\"" + ABC.substring(0, 12) + "\"&\"" + ABC.substring(12, 25) + "\"", "LONG", "=\"" + most + "\"&\"" + most + "\"", "LONG",
                "=LEN(\"" + most + "\"&1)", "LONG", "=LEN(\"" + most + "\")", "24");
    }

    private static void cutTexts() {
        Said.term(3, "LEFT, RIGHT: the first, last n bytes (n a NUMBER as above; below 0: TYPE; all, if there are fewer).");
        Bench b = mixed();
        for (String name : new String[] {"LEFT", "RIGHT"}) {
            boolean first = name.equals("LEFT");
            comesTo(b, "=" + name + "(\"abc\",0)", "'", "=" + name + "(\"abc\",1)", first ? "'a" : "'c", "=" + name + "(\"abc\",2)", first ? "'ab" : "'bc",
                    "=" + name + "(\"abc\",3)", "'abc", "=" + name + "(\"abc\",4)", "'abc", "=" + name + "(\"abc\"," + MOST + ")", "'abc",
                    "=" + name + "(\"abc\",4294967296)", "'abc", "=" + name + "(\"abc\",4294967297)", "'abc", "=" + name + "(\"abc\",-1)", "TYPE",
                    "=" + name + "(\"abc\"," + LEAST + ")", "TYPE", "=" + name + "(\"abc\",-4294967295)", "TYPE", "=" + name + "(\"abc\",A1)", "'",
                    "=" + name + "(\"abc\",\"1\")", "TYPE", "=" + name + "(\"abc\",TRUE)", "TYPE", "=" + name + "(\"\",0)", "'", "=" + name + "(\"\",5)", "'",
                    "=" + name + "(\"" + ABC.substring(0, 24) + "\",24)", "'" + ABC.substring(0, 24), "=LEN(" + name + "(\"" + ABC.substring(0, 24) + "\",23))", "23");
        }
    }

    private static void truthsWanted() {
        Said.term(3, "A TRUTH is wanted by NOT and IF's first, and by AND and OR of what is no AREA: nothing is FALSE, what else is none: TYPE.");
        Bench b = mixed();
        comesTo(b, "=NOT(A1)", "TRUE", "=NOT(TRUE)", "FALSE", "=NOT(FALSE)", "TRUE", "=NOT(0)", "TYPE", "=NOT(\"TRUE\")", "TYPE", "=IF(A1,1,2)", "2", "=IF(1,1,2)", "TYPE",
                "=IF(\"\",1,2)", "TYPE", "=IF(A4,1,2)", "1", "=AND(A1)", "FALSE", "=AND(TRUE,A1)", "FALSE", "=AND(1)", "TYPE", "=AND(FALSE,1)", "TYPE", "=AND(\"x\")", "TYPE",
                "=OR(A1)", "FALSE", "=OR(A1,TRUE)", "TRUE", "=OR(0)", "TYPE", "=OR(TRUE,\"x\")", "TYPE");
    }

    private static void comparisons() {
        Said.term(3, "Signs that compare: of two NUMBERS, of two TEXTS (by bytes, what goes on is greater), of two TRUTHS (FALSE is less)");
        Bench b = mixed();
        String[][] lessThan = {{"1", "2"}, {"-1", "0"}, {LEAST, MOST}, {"\"a\"", "\"b\""}, {"\"B\"", "\"a\""}, {"\"a\"", "\"aa\""}, {"\"\"", "\" \""}, {"\"10\"", "\"9\""},
            {"\"ab\"", "\"b\""}, {"FALSE", "TRUE"}, {"-5", "A1"}, {"A1", "5"}, {"A1", "\"a\""}, {"A1", "TRUE"}};
        for (String[] p : lessThan) {
            comesTo(b, "=" + p[0] + "<" + p[1], "TRUE", "=" + p[0] + "<=" + p[1], "TRUE", "=" + p[0] + ">" + p[1], "FALSE", "=" + p[0] + ">=" + p[1], "FALSE",
                    "=" + p[0] + "=" + p[1], "FALSE", "=" + p[0] + "<>" + p[1], "TRUE", "=" + p[1] + ">" + p[0], "TRUE", "=" + p[1] + "<=" + p[0], "FALSE");
        }

        Said.term(3, "nothing counts as 0, the TEXT without bytes or FALSE, as the other one is; two that are nothing are the same.");
        String[][] same = {{"1", "1"}, {MOST, MOST}, {"\"a\"", "\"a\""}, {"\"\"", "\"\""}, {"TRUE", "TRUE"}, {"FALSE", "FALSE"}, {"A1", "0"}, {"A1", "\"\""}, {"A1", "FALSE"},
            {"A1", "B1"}, {"A1", "A1@0"}};
        for (String[] p : same) {
            comesTo(b, "=" + p[0] + "=" + p[1], "TRUE", "=" + p[1] + "=" + p[0], "TRUE", "=" + p[0] + "<>" + p[1], "FALSE", "=" + p[0] + "<" + p[1], "FALSE",
                    "=" + p[0] + ">" + p[1], "FALSE", "=" + p[0] + "<=" + p[1], "TRUE", "=" + p[0] + ">=" + p[1], "TRUE");
        }

        Said.term(3, "Others: = FALSE, <> TRUE, else TYPE.");
        String[][] others = {{"1", "\"1\""}, {"\"TRUE\"", "TRUE"}, {"TRUE", "1"}, {"0", "FALSE"}, {"0", "\"\""}, {"\"\"", "FALSE"}};
        for (String[] p : others) {
            comesTo(b, "=" + p[0] + "=" + p[1], "FALSE", "=" + p[1] + "=" + p[0], "FALSE", "=" + p[0] + "<>" + p[1], "TRUE", "=" + p[0] + "<" + p[1], "TYPE",
                    "=" + p[0] + ">" + p[1], "TYPE", "=" + p[0] + "<=" + p[1], "TYPE", "=" + p[1] + ">=" + p[0], "TYPE");
        }
    }

    private static void ifs() {
        Said.term(3, "IF: the second, or the third, if the first is FALSE; the other one is not worked out.");
        Bench b = mixed();
        comesTo(b, "=IF(TRUE,1,1/0)", "1", "=IF(FALSE,1/0,2)", "2", "=IF(TRUE,1/0,1)", "DIV", "=IF(FALSE,1,#REF)", "REF", "=IF(TRUE,A3,1)", "'x", "=IF(FALSE,1,A4)", "TRUE",
                "=IF(FALSE,A8,3)", "3", "=IF(1=1,IF(1=2,#REF,4),#REF)", "4", "=ISERR(IF(FALSE,1,A5))", "TRUE");
    }

    private static void gatherings() {
        Said.term(3, "AND, OR, SUM, MIN, MAX: all args are worked out; of AREAS just the TRUTHS, or NUMBERS, count (and ERRORS, as they are met).");
        Bench b = mixed();
        comesTo(b, "=SUM(A1:A4)", "7", "=MIN(A1:A4)", "7", "=MAX(A6:A7)", "-3", "=AND(A1:A4)", "TRUE", "=AND(A1:A3,A6:A7)", "FALSE", "=OR(A1:A3,A6:A7)", "FALSE",
                "=OR(A1:A4)", "TRUE", "=SUM(A1:A5)", "DIV", "=AND(A6:A6,A5:A5)", "DIV", "=OR(A4:A5)", "DIV", "=SUM(A1:A4,A6:A7,10)", "14", "=MIN(A1:A4,A6:A7,10)", "-3",
                "=MAX(A1:A4,A6:A7,10)", "10", "=AND(FALSE,1/0)", "DIV", "=OR(TRUE,1/0)", "DIV", "=OR(TRUE,A5:A5)", "DIV", "=AND(FALSE,A5:A5)", "DIV",
                "=SUM(1,2,3,4,5,6,7,8)", "36", "=MIN(8,7,6,5,4,3,2,1)", "1", "=MAX(1,2,3,4,5,6,7,8)", "8");

        Said.term(3, "AND of none TRUE, OR of none FALSE, SUM of none 0, MIN, MAX of none NONE.");
        comesTo(b, "=AND(B1:C2)", "TRUE", "=OR(B1:C2)", "FALSE", "=SUM(B1:C2)", "0", "=MIN(B1:C2)", "NONE", "=MAX(B1:C2)", "NONE", "=AND(A2:A3)", "TRUE", "=OR(A2:A3)", "FALSE",
                "=SUM(A3:A4)", "0", "=MIN(A3:A4)", "NONE", "=MAX(A3:A4)", "NONE", "=MIN(B1:C2,B3)", "0", "=MAX(B1:C2,A3:A4)", "NONE");
    }

    private static void counts() {
        Said.term(3, "COUNT: how many are NUMBERS; ERRORS are passed over like all others, but an arg that is #REF, or a SPOT or AREA that is not there, gives REF when its turn comes.");
        Bench b = mixed();
        comesTo(b, "=COUNT(A1:A8)", "2", "=COUNT(A1,A2,A3,A4,A5,A6,A7,A8)", "2", "=COUNT(1/0)", "0", "=COUNT(1/0,1)", "1", "=COUNT(\"1\",TRUE,A1)", "0", "=COUNT(B1:C8)", "0",
                "=COUNT(#REF)", "REF", "=COUNT(1,#REF)", "REF", "=COUNT(#REF,1/0)", "REF", "=COUNT(-#REF,1)", "1", "=COUNT(#REF+1,1)", "1", "=COUNT(IF(TRUE,#REF,1))", "0",
                "=COUNT(1,2,3,4,5,6,7,8)", "8");
        comesTo(b, "=COUNT(IF(#REF,1,2),1)", "1", "=COUNT(NOT(#REF),1)", "1", "=COUNT(ABS(#REF),1)", "1", "=COUNT(LEN(#REF),1)", "1", "=COUNT(LEFT(#REF,1),1)", "1",
                "=COUNT(#REF&1,1)", "1", "=COUNT(1=#REF,1)", "1", "=COUNT(SUM(#REF),1)", "1", "=COUNT(ISERR(#REF),1)", "1", "=COUNT(ROW(#REF),1)", "1", "=COUNT(INDEX(#REF,1),1)", "1",
                "=COUNT(COUNT(#REF),1)", "1", "=COUNT(MATCH(#REF,A1:A2),1)", "1", "=COUNT(#REF)=1", "REF");
        Bench c = new Bench().in("A1", "=#REF").in("A2", "=COUNT(\"x\",1)").in("A3", "=#REF").in("A4", "=COUNT(TRUE,1)").in("A5", "=#REF").in("A6", "=COUNT(5,1)").in("A7", "=#REF");
        c.in("A8", "=COUNT(B1,1)");
        due("#REF in another cell", c.column('A', 1, 8), "REF 1 REF 1 REF 2 REF 1");
        b.in("B1", "=D1").in("B2", "=COUNT(D1)").in("B3", "=COUNT(B1)").in("B4", "=COUNT(1,D1:E1)").in("B5", "=COUNT(A2,B1:B1)").in("B6", "=COUNT(-D1)");
        b.x.remove(1, 4);
        due("a cell that has REF is passed over", b.shows("B3") + " " + b.shows("B5") + " " + b.shows("B6"), "0 1 0");
        due("a SPOT, an AREA that is not there", b.shows("B2") + " " + b.shows("B4"), "REF REF");

        Said.term(3, "ISERR: whether its arg is an ERROR.");
        comesTo(mixed(), "=ISERR(1)", "FALSE", "=ISERR(A1)", "FALSE", "=ISERR(\"x\")", "FALSE", "=ISERR(A5)", "TRUE", "=ISERR(A8)", "TRUE", "=ISERR(#REF)", "TRUE", "=ISERR(1/0)", "TRUE",
                "=ISERR(MIN(C1:C2))", "TRUE", "=ISERR(1+\"x\")", "TRUE");
    }

    private static void searches() {
        Said.term(3, "MATCH: the number (from 1 on) of the first cell of the AREA whose value is the same (=) as the first arg (ERRORS in it are passed over); NONE.");
        Bench b = mixed();
        comesTo(b, "=MATCH(7,A1:A8)", "2", "=MATCH(-3,A1:A8)", "7", "=MATCH(\"x\",A1:A8)", "3", "=MATCH(TRUE,A1:A8)", "4", "=MATCH(0,A1:A8)", "1", "=MATCH(\"\",A1:A8)", "1",
                "=MATCH(FALSE,A1:A8)", "1", "=MATCH(FALSE,A2:A8)", "5", "=MATCH(B1,A2:A8)", "5", "=MATCH(B1,A1:A8)", "1", "=MATCH(8,A1:A8)", "NONE", "=MATCH(\"X\",A1:A8)", "NONE",
                "=MATCH(\"7\",A1:A8)", "NONE", "=MATCH(1,#REF)", "REF", "=MATCH(-3,A7:A1)", "7", "=MATCH(7,A2:A2)", "1", "=MATCH(1,A5:A5)", "NONE");
        b.in("C1", "7").in("C2", "7");
        comesTo(b, "=MATCH(7,B1:C2)", "2", "=MATCH(7,C1:C2)", "1", "=MATCH(7,A1:C2)", "3");

        Said.term(3, "COUNTIF: how many are the same as its second arg, likewise.");
        comesTo(b, "=COUNTIF(A1:C2,7)", "3", "=COUNTIF(A1:A8,TRUE)", "1", "=COUNTIF(A1:A8,FALSE)", "2", "=COUNTIF(A1:A8,0)", "1", "=COUNTIF(A1:A8,\"x\")", "1", "=COUNTIF(A1:A8,8)", "0",
                "=COUNTIF(A5:A5,1)", "0", "=COUNTIF(A1:A8,D1)", "2", "=COUNTIF(#REF,1)", "REF", "=COUNTIF(D1:E8,\"\")", "16");
    }

    private static void index() {
        Said.term(3, "INDEX: the value of its n-th cell (n a NUMBER as above); REF if there is none such.");
        Bench b = mixed();
        comesTo(b, "=INDEX(A1:A8,0)", "REF", "=INDEX(A1:A8,1)", "0", "=INDEX(A1:A8,2)", "7", "=INDEX(A1:A8,7)", "-3", "=INDEX(A1:A8,8)", "CIRCLE", "=INDEX(A1:A8,9)", "REF",
                "=INDEX(A1:A8,-1)", "REF", "=INDEX(A1:A8,5)", "DIV", "=INDEX(A1:A8," + MOST + ")", "REF", "=INDEX(A1:A8," + LEAST + ")", "REF", "=INDEX(A1:A8,4294967298)", "REF",
                "=INDEX(A1:A8,B1)", "REF", "=INDEX(A1:A8,\"1\")", "TYPE", "=INDEX(A1:A8,TRUE)", "TYPE", "=INDEX(A2:A2,1)", "7", "=INDEX(A2:A2,2)", "REF", "=INDEX(A1:B2,3)", "7",
                "=INDEX(A1:B2,4)", "0", "=INDEX(A1:B2,5)", "REF", "=INDEX(#REF,1)", "REF", "=INDEX(#REF,\"x\")", "REF", "=INDEX(A3:A4,2)", "TRUE", "=INDEX(A3:A3,1)", "'x");
    }

    private static void rowAndColumn() {
        Said.term(3, "ROW, COL: at which place the row or column of the SPOT is, in its sheet; REF, if its row or column is not there.");
        Bench b = new Bench();
        comesTo(b, "=ROW(A1)", "1", "=ROW(F8)", "8", "=COL(A1)", "1", "=COL(F8)", "6", "=ROW($B$3)", "3", "=COL($B$3)", "2", "=ROW(#REF)", "REF", "=COL(#REF)", "REF", "=ROW(B3@0)", "3");
        b.in("A1", "=ROW(C3)").in("B1", "=COL(C3)").in("A2", "=ROW(C3@0)");
        b.x.insert(0, 2);
        b.x.insert(1, 3);
        due("moved on", b.shows("A1") + " " + b.shows("B1") + " " + b.shows("A3"), "4 4 3");
        b.x.remove(0, 4);
        due("without the row", b.shows("A1") + " " + b.shows("B1") + " " + b.shows("A3"), "REF REF 3");
        b.x.undo();
        b.x.remove(1, 4);
        due("without the column", b.shows("A1") + " " + b.shows("B1") + " " + b.shows("A3"), "REF REF 3");
    }

    private static void circles() {
        Said.term(3, "A cell LEADS to those that its FORMULA has as SPOTS, or in AREAS, without @ (in parts that are not worked out, too; but not in ROW and COL).");
        Bench b = new Bench();
        b.x.commit();
        comesTo(b, "=F8", "CIRCLE", "=IF(TRUE,1,F8)", "CIRCLE", "=SUM(A1:F8)", "CIRCLE", "=SUM(F8:F8)", "CIRCLE", "=F8@1", "0", "=SUM(A1:F8@1)", "0", "=ROW(F8)", "8", "=COL(F8)", "6",
                "=ISERR(F8)", "CIRCLE", "=COUNT(F8)", "CIRCLE", "=ROW(F8)+F8", "CIRCLE", "=INDEX(A8:F8,1)", "CIRCLE", "=SUM(A1:F7)", "0", "=SUM(A8:E8)", "0",
                "=MATCH(1,A1:F8)", "CIRCLE", "=COUNTIF(F1:F8,1)", "CIRCLE");

        Said.term(3, "One that leads to itself, at once or over others, has the value CIRCLE.");
        b.in("A1", "=B1").in("B1", "=C1").in("C1", "=A1").in("D1", "=A1").in("E1", "=ISERR(D1)").in("F1", "=IF(TRUE,5,A1)");
        due("three in a ring, and those that look at them", b.shows("A1") + b.shows("B1") + b.shows("C1") + b.shows("D1") + b.shows("E1") + b.shows("F1"),
                "CIRCLECIRCLECIRCLECIRCLETRUE5");
        b.in("C1", "=ROW(A1)");
        due("no ring", b.shows("A1") + b.shows("B1") + b.shows("C1") + b.shows("D1"), "1111");
        b.in("C1", "=#REF");
        due("no ring", b.shows("A1"), "REF");
        Bench chain = new Bench();
        for (int r = 1; r <= 8; r++) {
            chain.in("A" + r, r < 8 ? "=A" + (r + 1) + "+1" : "=B1").in("B" + r, r < 8 ? "=B" + (r + 1) + "+1" : "1");
        }
        due("a long way without a ring", chain.shows("A1"), "15");
        chain.in("B8", "=A1");
        due("a long ring", chain.shows("A1") + chain.shows("B1") + chain.shows("B8"), "CIRCLECIRCLECIRCLE");
        chain.x.commit();
        chain.in("B8", "=A1@1");
        due("over a version there is no ring", chain.shows("B8") + chain.shows("A1"), "CIRCLECIRCLE");
        chain.in("B8", "=ISERR(A1@1)").in("B7", "=1");
        due("over a version there is no ring", chain.shows("B8") + chain.shows("A1"), "TRUE14");
    }

    /** Sheets and cells that are not there, with version 1 the latest, of 8 rows and 6 columns. */
    private static final int[][] NO_CELLS = {{-2, 1, 1}, {2, 1, 1}, {40, 1, 1}, {Integer.MAX_VALUE, 1, 1}, {Integer.MIN_VALUE, 1, 1}, {-1, 0, 1}, {-1, 9, 1}, {-1, 1, 0}, {-1, 1, 7},
        {-1, -1, -1}, {-1, Integer.MAX_VALUE, 1}, {-1, 1, Integer.MIN_VALUE}, {0, 9, 1}, {0, 1, 7}, {1, 0, 1}, {1, 1, 0}, {1, 9, 6}};

    private static Bench asked() {
        Bench b = new Bench().in("A1", "5").in("B1", "abc").in("C1", "TRUE").in("D1", "=1/0").in("E1", "'").in("F1", "FALSE").in("F8", "=\"x\"&1");
        b.x.commit();
        return b;
    }

    private static void kind() {
        Said.promise(27, "0 nothing, 1 a NUMBER, 2 a TEXT, 3 a TRUTH, 4 an ERROR.");
        Bench b = asked();
        for (int v = -1; v <= 1; v++) {
            String got = "";
            for (int c = 1; c <= 6; c++) {
                got += b.x.kind(v, 1, c);
            }
            due("kinds of " + v, got + b.x.kind(v, 8, 6) + b.x.kind(v, 2, 1), v == 0 ? "00000000" : "12342320");
        }

        Said.promise(27, "NONE if there is no such sheet or cell.");
        for (int[] n : NO_CELLS) {
            due("kind(" + n[0] + ", " + n[1] + ", " + n[2] + ")", b.x.kind(n[0], n[1], n[2]), -1);
        }
    }

    private static void value() {
        Said.promise(28, "Its NUMBER, how many bytes its TEXT has, its TRUTH (1, 0), its ERROR; 0 for nothing, and if there is none such.");
        Bench b = asked();
        String got = "";
        for (int c = 1; c <= 6; c++) {
            got += b.x.value(-1, 1, c);
        }
        due("values", got + b.x.value(1, 8, 6) + b.x.value(1, 2, 1), "53120020");
        for (int[] n : NO_CELLS) {
            due("value(" + n[0] + ", " + n[1] + ", " + n[2] + ")", b.x.value(n[0], n[1], n[2]), 0);
        }
        b.in("A1", "=" + MOST).in("A2", "=" + LEAST);
        due("the greatest and least", b.x.value(-1, 1, 1) + " " + b.x.value(-1, 2, 1), "1000000000000000 -1000000000000000");
    }

    private static void letter() {
        Said.promise(29, "Byte i of a cell's value, a TEXT; NONE if there is none such.");
        Bench b = asked();
        due("letters", b.x.letter(-1, 1, 2, 0) + " " + b.x.letter(1, 1, 2, 2) + " " + b.x.letter(-1, 8, 6, 0) + " " + b.x.letter(-1, 8, 6, 1), "97 99 120 49");
        int[][] none = {{-1, 1, 2, 3}, {-1, 1, 2, -1}, {-1, 1, 2, Integer.MAX_VALUE}, {-1, 1, 2, Integer.MIN_VALUE}, {-1, 8, 6, 2}, {-1, 1, 1, 0}, {-1, 1, 3, 0}, {-1, 1, 4, 0},
            {-1, 1, 5, 0}, {-1, 1, 6, 0}, {-1, 2, 1, 0}, {0, 1, 2, 0}};
        for (int[] n : none) {
            due("letter(" + n[0] + ", " + n[1] + ", " + n[2] + ", " + n[3] + ")", b.x.letter(n[0], n[1], n[2], n[3]), -1);
        }
        for (int[] n : NO_CELLS) {
            due("letter(" + n[0] + ", " + n[1] + ", " + n[2] + ", 0)", b.x.letter(n[0], n[1], n[2], 0), -1);
        }
        b.in("A1", ABC.substring(0, 24));
        due("the 24th", b.x.letter(-1, 1, 1, 23) + " " + b.x.letter(-1, 1, 1, 24), "120 -1");
    }
}
