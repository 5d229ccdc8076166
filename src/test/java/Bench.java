import java.util.function.LongSupplier;

/** A sheet on the bench: tells of cells by their names ("B3") and of answers as texts ("7", "throws.X"). */
final class Bench {
    private static int wrong = 0;
    private static int looked = 0;
    private static String about = "";

    final SheetBranches x = new SheetBranches();

    static void about(String what) {
        about = what;
    }

    static void due(String call, Object got, Object want) {
        looked++;
        if (!String.valueOf(got).equals(String.valueOf(want))) {
            wrong++;
            System.out.println(about + ": " + call + " answered " + got + ", due is " + want);
        }
    }

    static void finish() {
        System.out.println(looked + " answers looked at, " + wrong + " not as due");
        if (wrong != 0) {
            System.exit(1);
        }
    }

    /** The answer, or what was thrown: the machine's own exceptions are of other classes than the document's. */
    static String of(LongSupplier call) {
        try {
            return Long.toString(call.getAsLong());
        } catch (RuntimeException e) {
            return "throws." + e.getClass().getSimpleName();
        }
    }

    static int row(String cell) {
        return Integer.parseInt(cell.substring(1));
    }

    static int column(String cell) {
        return cell.charAt(0) - 'A' + 1;
    }

    void tape(String text) {
        for (int i = 0; i < text.length(); i += 20) {
            int[] five = new int[5];
            for (int k = 0; k < 20; k++) {
                int b = i + k < text.length() ? text.charAt(i + k) & 255 : 32;
                five[k / 4] = five[k / 4] << 8 | b;
            }
            x.feed(five[0], five[1], five[2], five[3], five[4]);
        }
        x.end(text.length());
    }

    String enter(String cell, String text) {
        tape(text);
        return of(() -> x.enter(row(cell), column(cell)));
    }

    /** Enters what must go in. */
    Bench in(String cell, String text) {
        String got = enter(cell, text);
        if (got.startsWith("throws")) {
            due("enter of " + text + " in " + cell, got, "no exception");
        }
        return this;
    }

    /** The fault of a text: "0@-1" without one. */
    String faultOf(String text) {
        enter("A1", text);
        return x.fault(0) + "@" + x.fault(1);
    }

    String shows(int version, String cell) {
        int r = row(cell);
        int c = column(cell);
        long v = x.value(version, r, c);
        switch (x.kind(version, r, c)) {
            case 0:
                return v == 0 ? "nothing" : "nothing?" + v;
            case 1:
                return Long.toString(v);
            case 2: {
                StringBuilder b = new StringBuilder("'");
                for (int i = 0; i < v; i++) {
                    b.append((char) x.letter(version, r, c, i));
                }
                return b.append(x.letter(version, r, c, (int) v) == -1 ? "" : "?").toString();
            }
            case 3:
                return v == 1 ? "TRUE" : v == 0 ? "FALSE" : "truth?" + v;
            case 4:
                return new String[] {"error?", "REF", "DIV", "TYPE", "BIG", "LONG", "CIRCLE", "NONE"}[(int) v];
            default:
                return "no cell";
        }
    }

    String shows(String cell) {
        return shows(-1, cell);
    }

    /** What a formula comes to, entered in a cell that no test uses otherwise. */
    String comesTo(String formula) {
        String got = enter("F8", formula);
        return got.startsWith("throws") ? "fault " + x.fault(0) + "@" + x.fault(1) : shows("F8");
    }

    String writes(int version, String cell) {
        StringBuilder b = new StringBuilder();
        for (int i = 0; x.written(version, row(cell), column(cell), i) != -1; i++) {
            b.append((char) x.written(version, row(cell), column(cell), i));
        }
        return b.toString();
    }

    String writes(String cell) {
        return writes(-1, cell);
    }

    /** How a content is written again. */
    String again(String text) {
        in("E7", text);
        return writes("E7");
    }

    /** The values of a column from the top, with blanks between. */
    String column(char letter, int from, int to) {
        StringBuilder b = new StringBuilder();
        for (int r = from; r <= to; r++) {
            b.append(b.length() > 0 ? " " : "").append(shows(letter + "" + r));
        }
        return b.toString();
    }

    /** All that can be asked without changing something: two of these are the same if nothing was changed. */
    String everything() {
        StringBuilder b = new StringBuilder();
        for (int i = 0; i <= 15; i++) {
            b.append(x.total(i)).append(' ');
        }
        b.append("fault ").append(x.fault(0)).append('@').append(x.fault(1));
        for (int i = 0; x.conflict(i, 0) != -1; i++) {
            b.append(" conflict ").append(x.conflict(i, 0)).append(' ').append(x.conflict(i, 1)).append(' ').append(x.conflict(i, 2)).append(' ').append(x.conflict(i, 3));
        }
        for (int i = 0; x.difference(i, 0) != -1; i++) {
            b.append(" difference ").append(x.difference(i, 0)).append(' ').append(x.difference(i, 1)).append(' ').append(x.difference(i, 2));
        }
        for (int v = -1; v < x.total(0); v++) {
            b.append("\nsheet ").append(v).append(' ').append(x.sheet(v, 2)).append(' ').append(x.sheet(v, 3)).append(' ').append(contents(v));
        }
        return b.toString();
    }

    /** The contents of a sheet and their values, row by row. */
    String contents(int version) {
        StringBuilder b = new StringBuilder();
        for (int r = 1; r <= x.sheet(version, 0); r++) {
            for (int c = 1; c <= x.sheet(version, 1); c++) {
                String cell = (char) ('A' + c - 1) + "" + r;
                b.append(writes(version, cell)).append(':').append(shows(version, cell)).append('|');
            }
            b.append('/');
        }
        return b.toString();
    }
}
