import java.util.stream.IntStream;

/** Promises 12 to 16: run, rows, kind, value, looked. */
public final class RunTest {
    private static final int PATH = HeapQueries.PATH;
    private static final int TYPE = HeapQueries.TYPE;
    private static final int OBJECTS = HeapQueries.OBJECTS;

    public static void main(String[] args) {
        incomplete();
        sources();
        nested();
        wheres();
        paths();
        facts();
        arithmetic();
        comparisons();
        logic();
        order();
        operandsBeforeOperator();
        distinct();
        retained();
        unions();
        snapshotAsItIsNow();
        mostRows();
        Check.end();
    }

    /**
     * Classes 0 <- 1 <- 2 and 3. Objects 0 (class 0, size 10, root), 1 (class 1, 20), 2 (class 1, 30),
     * 3 (class 2, 5), 4 (class 3, 100), 5 (class 3, 7). Links 0 -> 1, 2; 1 -> 3; 2 -> 3; 3 -> 4; 4 -> 3; 5 -> 4.
     */
    private static HeapQueries heap() {
        HeapQueries x = new HeapQueries();
        x.addClass(-1);
        x.addClass(0);
        x.addClass(1);
        x.addClass(-1);
        int[][] objects = {{0, 10}, {1, 20}, {1, 30}, {2, 5}, {3, 100}, {3, 7}};
        for (int[] o : objects) {
            x.addObject(o[0], o[1]);
        }
        int[][] links = {{0, 0, 1}, {0, 1, 2}, {1, 0, 3}, {2, 0, 3}, {3, 0, 4}, {4, 2, 3}, {5, 0, 4}};
        for (int[] l : links) {
            x.set(l[0], l[1], 2, l[2]);
        }
        x.set(3, 1, 1, -17);
        x.set(1, 3, 1, 8);
        x.set(2, 3, 1, 8);
        x.setRoot(0, true);
        return x;
    }

    /** Works out an e with THIS being object 0. */
    private static void e(String e, String want) {
        Check.rows(heap(), "SELECT " + e + " FROM CLASS:0 END", 1, want);
    }

    private static void eError(String e, int error) {
        Check.error(heap(), "SELECT " + e + " FROM CLASS:0 END", 1, error);
        Check.error(heap(), "SELECT NULL FROM CLASS:0 WHERE " + e + " END", 1, error);
    }

    private static void incomplete() {
        HeapQueries x = heap();
        Check.due("nothing run: rows()", x.rows(), 0);
        Check.due("nothing run: looked()", x.looked(), 0);
        Check.rows(x, "SELECT THIS FROM CLASS:1 END", 2, "@1", "@2");
        x.clear();
        for (String token : "SELECT NUMBER:1 FIELD:0 FROM CLASS:3".split(" ")) {
            Check.give(x, token);
            int before = x.tokens();
            Check.due("incomplete: run()", x.run(), HeapQueries.INCOMPLETE);
            Check.due("incomplete: tokens()", x.tokens(), before);
            Check.due("incomplete: rows()", x.rows(), 2);
            Check.due("incomplete: looked()", x.looked(), 2);
            Check.due("incomplete: row 0", Check.row(x, 0), "@1");
            Check.due("incomplete: row 1", Check.row(x, 1), "@2");
        }
        Check.give(x, "END");
        Check.due("complete, not run: rows()", x.rows(), 2);
        Check.due("complete: run()", x.run(), PATH);
        Check.due("complete: tokens()", x.tokens(), 6);
        Check.due("complete: rows()", x.rows(), 0);
        Check.due("complete: looked()", x.looked(), 1);
        Check.due("run again", x.run(), PATH);
        Check.rows(x, "SELECT THIS FROM CLASS:1 END", 2, "@1", "@2");
        for (int i : new int[] {-1, 2, 192, Integer.MAX_VALUE, Integer.MIN_VALUE}) {
            Check.noRow(x, "two rows", i);
        }
    }

    private static void sources() {
        HeapQueries x = heap();
        Check.rows(x, "SELECT THIS FROM CLASS:0 END", 1, "@0");
        Check.rows(x, "SELECT THIS FROM CLASS:1 END", 2, "@1", "@2");
        Check.rows(x, "SELECT THIS FROM INSTANCEOF:0 END", 4, "@0", "@1", "@2", "@3");
        Check.rows(x, "SELECT THIS FROM INSTANCEOF:1 END", 3, "@1", "@2", "@3");
        Check.rows(x, "SELECT THIS FROM INSTANCEOF:2 END", 1, "@3");
        Check.rows(x, "SELECT THIS FROM INSTANCEOF:3 END", 2, "@4", "@5");
        x.addClass(3);
        Check.rows(x, "SELECT THIS FROM INSTANCEOF:4 END", 0);
    }

    private static void nested() {
        HeapQueries x = heap();
        Check.rows(x, "SELECT THIS AT:0 FROM OPEN SELECT THIS FIELD:0 FROM INSTANCEOF:0 CLOSE END", 8,
                "1", "3", "3", "4");
        Check.rows(x, "SELECT THIS FROM OPEN SELECT THIS FIELD:2 FROM INSTANCEOF:3 CLOSE END", 3, "@3");
        Check.rows(x, "SELECT THIS FROM OPEN SELECT NULL FROM INSTANCEOF:0 CLOSE END", 4);
        Check.rows(x, "SELECT THIS FROM OPEN SELECT THIS FROM CLASS:3 UNION SELECT THIS FROM CLASS:0 CLOSE END", 6,
                "@4", "@5", "@0");
        Check.rows(x, "SELECT THIS AT:2 FROM OPEN SELECT THIS FROM OPEN SELECT THIS FROM CLASS:3 CLOSE"
                + " WHERE THIS AT:0 EQ NUMBER:5 CLOSE END", 5, "7");
        Check.error(x, "SELECT THIS FROM OPEN SELECT THIS AT:0 FROM CLASS:1 CLOSE END", 2, OBJECTS);
        Check.error(x, "SELECT THIS FROM OPEN SELECT THIS FIELD:3 FROM INSTANCEOF:0 CLOSE END", 4, OBJECTS);
        Check.error(x, "SELECT THIS FROM OPEN SELECT THIS FROM CLASS:1 UNION SELECT NUMBER:0 FROM CLASS:0 CLOSE END",
                3, OBJECTS);
        Check.error(x, "SELECT THIS FROM OPEN SELECT THIS FIELD:3 FIELD:0 FROM INSTANCEOF:0 CLOSE END", 2, PATH);
        Check.error(x, "SELECT THIS FROM OPEN SELECT THIS FROM OPEN SELECT NUMBER:1 FROM CLASS:0 CLOSE CLOSE END",
                1, OBJECTS);
        Check.rows(x, "SELECT THIS FROM OPEN SELECT NUMBER:1 FROM CLASS:0 WHERE NULL CLOSE END", 1);
    }

    private static void wheres() {
        HeapQueries x = heap();
        Check.rows(x, "SELECT THIS FROM CLASS:1 WHERE NULL END", 2);
        Check.rows(x, "SELECT THIS FROM CLASS:1 WHERE NUMBER:0 END", 2);
        Check.rows(x, "SELECT THIS FROM CLASS:1 WHERE NUMBER:-1 END", 2, "@1", "@2");
        Check.rows(x, "SELECT THIS FROM CLASS:1 WHERE NUMBER:-2147483648 END", 2, "@1", "@2");
        Check.rows(x, "SELECT NUMBER:1 FIELD:0 FROM CLASS:1 WHERE NUMBER:0 END", 2);
        Check.error(x, "SELECT NUMBER:1 FIELD:0 FROM CLASS:1 WHERE NUMBER:1 END", 1, PATH);
        Check.error(x, "SELECT NUMBER:1 FIELD:0 FROM CLASS:1 WHERE THIS END", 1, TYPE);
        Check.error(x, "SELECT THIS FROM CLASS:3 WHERE THIS FIELD:2 END", 1, TYPE);
        Check.error(x, "SELECT THIS FROM INSTANCEOF:0 WHERE THIS FIELD:1 END", 1, TYPE);
        Check.error(x, "SELECT THIS FROM INSTANCEOF:1 WHERE THIS FIELD:3 FIELD:0 END", 1, PATH);
        Check.rows(x, "SELECT THIS AT:1 FROM INSTANCEOF:1 WHERE THIS FIELD:3 END", 3, "1", "1");
    }

    private static void paths() {
        e("THIS FIELD:0", "@1");
        e("THIS FIELD:1", "@2");
        e("THIS FIELD:2", "n");
        e("THIS FIELD:0 FIELD:0 FIELD:0 FIELD:2 FIELD:1", "-17");
        e("THIS FIELD:2 FIELD:3 AT:5 FIELD:0", "n");
        e("NULL FIELD:0", "n");
        e("OPEN NULL CLOSE AT:4", "n");
        e("OPEN THIS FIELD:0 CLOSE FIELD:3", "8");
        eError("NUMBER:0 FIELD:0", PATH);
        eError("NUMBER:1 AT:0", PATH);
        eError("THIS AT:0 AT:0", PATH);
        eError("THIS FIELD:0 FIELD:3 FIELD:0", PATH);
        eError("OPEN THIS EQ THIS CLOSE FIELD:0", PATH);
    }

    private static void facts() {
        HeapQueries x = heap();
        x.set(1, 1, 2, 3);
        x.set(4, 0, 2, 4);
        String from = " FROM INSTANCEOF:0 UNION SELECT THIS AT:";
        String end = " FROM INSTANCEOF:3 END";
        Check.rows(x, "SELECT THIS AT:0" + from + "0" + end, 6, "0", "1", "2", "3", "4", "5");
        Check.rows(x, "SELECT THIS AT:1" + from + "1" + end, 6, "0", "1", "1", "2", "3", "3");
        Check.rows(x, "SELECT THIS AT:2" + from + "2" + end, 6, "10", "20", "30", "5", "100", "7");
        Check.rows(x, "SELECT THIS AT:3" + from + "3" + end, 6, "165", "20", "30", "105", "100", "0");
        Check.rows(x, "SELECT THIS AT:4" + from + "4" + end, 6, "n", "@0", "@0", "@0", "@3", "n");
        Check.rows(x, "SELECT THIS AT:5" + from + "5" + end, 6, "0", "1", "1", "4", "3", "0");
        Check.rows(x, "SELECT THIS AT:4 AT:4 AT:4 FROM CLASS:3 END", 2, "n", "n");
        Check.rows(x, "SELECT THIS AT:4 AT:4 FROM CLASS:3 END", 2, "@0", "n");
    }

    private static void arithmetic() {
        e("NUMBER:2 PLUS NUMBER:3", "5");
        e("NUMBER:2 MINUS NUMBER:3", "-1");
        e("NUMBER:2 TIMES NUMBER:-3", "-6");
        e("NUMBER:2147483647 PLUS NUMBER:1", "-2147483648");
        e("NUMBER:-2147483648 MINUS NUMBER:1", "2147483647");
        e("NUMBER:65536 TIMES NUMBER:65536", "0");
        e("NUMBER:2147483647 TIMES NUMBER:2147483647", "1");
        for (String operator : new String[] {"PLUS", "MINUS", "TIMES"}) {
            e("NULL " + operator + " NUMBER:1", "n");
            e("NUMBER:0 " + operator + " NULL", "n");
            e("NULL " + operator + " NULL", "n");
            eError("THIS " + operator + " NUMBER:1", TYPE);
            eError("NUMBER:1 " + operator + " THIS", TYPE);
            eError("NULL " + operator + " THIS", TYPE);
            eError("THIS " + operator + " NULL", TYPE);
            eError("THIS " + operator + " THIS", TYPE);
        }
    }

    private static void comparisons() {
        e("NUMBER:1 LESS NUMBER:2", "1");
        e("NUMBER:2 LESS NUMBER:2", "0");
        e("NUMBER:3 LESS NUMBER:2", "0");
        e("NUMBER:-2147483648 LESS NUMBER:2147483647", "1");
        e("NULL LESS NUMBER:2", "0");
        e("NUMBER:-2 LESS NULL", "0");
        e("NULL LESS NULL", "0");
        eError("THIS LESS NUMBER:1", TYPE);
        eError("NUMBER:1 LESS THIS", TYPE);
        eError("NULL LESS THIS", TYPE);
        eError("THIS LESS NULL", TYPE);
        String[] values = {"NULL", "NUMBER:0", "NUMBER:1", "NUMBER:-1", "THIS", "THIS FIELD:0"};
        for (String left : values) {
            for (String right : values) {
                e(left + " EQ " + right, left.equals(right) ? "1" : "0");
                e(left + " NE " + right, left.equals(right) ? "0" : "1");
            }
        }
        e("THIS FIELD:0 FIELD:0 EQ THIS FIELD:1 FIELD:0", "1");
        e("THIS FIELD:0 AT:4 EQ THIS", "1");
    }

    private static void logic() {
        e("NOT NULL", "1");
        e("NOT NUMBER:0", "1");
        e("NOT NUMBER:5", "0");
        e("NOT NOT NUMBER:5", "1");
        e("NOT NOT NULL", "0");
        eError("NOT THIS", TYPE);
        eError("NOT NOT THIS", TYPE);
        String[] values = {"NULL", "NUMBER:0", "NUMBER:1", "NUMBER:-7"};
        for (int i = 0; i < values.length; i++) {
            for (int j = 0; j < values.length; j++) {
                e(values[i] + " AND " + values[j], i >= 2 && j >= 2 ? "1" : "0");
                e(values[i] + " OR " + values[j], i >= 2 || j >= 2 ? "1" : "0");
            }
        }
        for (int i = 0; i < values.length; i++) {
            boolean holds = i >= 2;
            for (String bad : new String[] {"THIS", "NUMBER:1 FIELD:0"}) {
                int error = bad.equals("THIS") ? TYPE : PATH;
                if (holds) {
                    e(values[i] + " OR " + bad, "1");
                    eError(values[i] + " AND " + bad, error);
                } else {
                    e(values[i] + " AND " + bad, "0");
                    eError(values[i] + " OR " + bad, error);
                }
            }
            eError("THIS AND " + values[i], TYPE);
            eError("THIS OR " + values[i], TYPE);
        }
        eError("NUMBER:1 AND NUMBER:1 AND THIS", TYPE);
        e("NUMBER:1 AND NUMBER:0 AND THIS", "0");
        e("NUMBER:0 AND THIS OR NUMBER:2", "1");
        e("NUMBER:1 OR THIS AND THIS", "1");
        e("NULL AND THIS AND THIS FIELD:0 FIELD:3 FIELD:0", "0");
        e("NULL OR NUMBER:3 OR THIS", "1");
    }

    private static void order() {
        e("NUMBER:10 MINUS NUMBER:3 PLUS NUMBER:2", "9");
        e("NUMBER:10 MINUS NUMBER:3 MINUS NUMBER:2", "5");
        e("NUMBER:10 MINUS OPEN NUMBER:3 MINUS NUMBER:2 CLOSE", "9");
        e("NUMBER:2 PLUS NUMBER:3 TIMES NUMBER:4", "14");
        e("NUMBER:2 TIMES NUMBER:3 PLUS NUMBER:4", "10");
        e("OPEN NUMBER:2 PLUS NUMBER:3 CLOSE TIMES NUMBER:4", "20");
        e("NUMBER:1 PLUS NUMBER:1 EQ NUMBER:2", "1");
        e("NUMBER:2 EQ NUMBER:1 PLUS NUMBER:1", "1");
        e("NUMBER:1 PLUS OPEN NUMBER:1 EQ NUMBER:2 CLOSE", "1");
        e("NOT NUMBER:1 EQ NUMBER:2", "1");
        e("OPEN NOT NUMBER:1 CLOSE EQ NUMBER:0", "1");
        e("NOT NUMBER:0 AND NUMBER:0", "0");
        e("NOT OPEN NUMBER:0 AND NUMBER:0 CLOSE", "1");
        e("NUMBER:1 OR NUMBER:0 AND NUMBER:0", "1");
        e("OPEN NUMBER:1 OR NUMBER:0 CLOSE AND NUMBER:0", "0");
        e("NUMBER:0 AND NUMBER:0 OR NUMBER:1", "1");
        e("NUMBER:0 AND NUMBER:1 EQ NUMBER:0", "0");
        e("NUMBER:3 LESS NUMBER:2 TIMES NUMBER:2 OR NOT NUMBER:1", "1");
    }

    private static void operandsBeforeOperator() {
        for (String operator : new String[] {"PLUS", "MINUS", "TIMES", "LESS", "EQ", "NE"}) {
            eError("THIS " + operator + " OPEN NUMBER:1 FIELD:0 CLOSE", PATH);
            eError("NULL " + operator + " OPEN NUMBER:1 FIELD:0 CLOSE", PATH);
            eError("OPEN NUMBER:1 FIELD:0 CLOSE " + operator + " OPEN THIS PLUS NULL CLOSE", PATH);
            eError("OPEN THIS PLUS NULL CLOSE " + operator + " OPEN NUMBER:1 FIELD:0 CLOSE", TYPE);
        }
        eError("THIS AND NUMBER:1 FIELD:0", TYPE);
        eError("THIS OR NUMBER:1 FIELD:0", TYPE);
        eError("THIS PLUS NULL PLUS NUMBER:1 FIELD:0", TYPE);
        eError("THIS PLUS NULL TIMES NUMBER:1 FIELD:0", PATH);
    }

    private static void distinct() {
        HeapQueries x = heap();
        Check.rows(x, "SELECT DISTINCT THIS FIELD:0 FROM INSTANCEOF:0 END", 4, "@1", "@3", "@4");
        Check.rows(x, "SELECT DISTINCT THIS FIELD:3 FROM INSTANCEOF:0 END", 4, "n", "8");
        Check.rows(x, "SELECT THIS FIELD:3 FROM INSTANCEOF:0 END", 4, "n", "8", "8", "n");
        x.set(1, 3, 2, 0);
        x.set(2, 3, 1, 0);
        Check.rows(x, "SELECT DISTINCT THIS FIELD:3 FROM INSTANCEOF:0 END", 4, "n", "@0", "0");
        Check.rows(x, "SELECT DISTINCT NUMBER:1 FROM CLASS:1 UNION SELECT DISTINCT NUMBER:1 FROM CLASS:3 END", 4,
                "1", "1");
        Check.rows(x, "SELECT NUMBER:1 FROM CLASS:1 UNION SELECT DISTINCT NUMBER:1 FROM CLASS:3 END", 4,
                "1", "1", "1");
        Check.rows(x, "SELECT DISTINCT THIS FROM OPEN SELECT THIS FIELD:0 FROM INSTANCEOF:0 CLOSE END", 8,
                "@1", "@3", "@4");
    }

    private static void retained() {
        HeapQueries x = heap();
        Check.rows(x, "SELECT RETAINED THIS FROM CLASS:1 END", 2, "@1", "@2", "@3", "@4");
        Check.rows(x, "SELECT DISTINCT RETAINED THIS FROM CLASS:1 END", 2, "@1", "@2", "@3", "@4");
        Check.rows(x, "SELECT RETAINED THIS FROM CLASS:1 WHERE THIS AT:0 EQ NUMBER:1 END", 2, "@1");
        Check.rows(x, "SELECT RETAINED THIS FIELD:0 FROM INSTANCEOF:3 END", 2, "@4");
        Check.rows(x, "SELECT RETAINED THIS FROM CLASS:3 WHERE THIS AT:0 EQ NUMBER:5 END", 2);
        Check.rows(x, "SELECT RETAINED NULL FROM CLASS:3 END", 2);
        Check.rows(x, "SELECT RETAINED THIS FROM CLASS:0 WHERE NULL END", 1);
        Check.rows(x, "SELECT RETAINED THIS FROM CLASS:0 END", 1, "@0", "@1", "@2", "@3", "@4");
        Check.rows(x, "SELECT RETAINED THIS FROM OPEN SELECT THIS FIELD:0 FROM CLASS:1 CLOSE END", 4, "@3", "@4");
        Check.rows(x, "SELECT THIS AT:2 FROM OPEN SELECT RETAINED THIS FROM CLASS:2 CLOSE END", 3, "5", "100");
        Check.error(x, "SELECT RETAINED THIS FIELD:3 FROM INSTANCEOF:0 END", 4, OBJECTS);
        Check.error(x, "SELECT RETAINED NUMBER:0 FROM CLASS:1 END", 2, OBJECTS);
        Check.error(x, "SELECT RETAINED THIS FIELD:1 AT:0 FROM INSTANCEOF:0 END", 4, PATH);
        Check.rows(x, "SELECT NUMBER:4 FROM CLASS:0 UNION SELECT RETAINED THIS FROM CLASS:2 END", 2, "4", "@3", "@4");
    }

    private static void unions() {
        HeapQueries x = heap();
        Check.rows(x, "SELECT THIS FROM CLASS:3 UNION SELECT NULL FROM CLASS:0 UNION SELECT THIS AT:2 FROM CLASS:1 END",
                5, "@4", "@5", "n", "20", "30");
        Check.error(x, "SELECT THIS FROM CLASS:1 UNION SELECT NOT THIS FROM CLASS:3 UNION SELECT THIS FROM CLASS:0 END",
                3, TYPE);
        Check.error(x, "SELECT NOT THIS FROM CLASS:1 UNION SELECT NUMBER:1 AT:1 FROM CLASS:3 END", 1, TYPE);
    }

    private static void snapshotAsItIsNow() {
        HeapQueries x = heap();
        String text = "SELECT THIS AT:4 FROM CLASS:2 UNION SELECT THIS AT:3 FROM CLASS:2 END";
        Check.rows(x, text, 2, "@0", "105");
        x.set(2, 0, 0, 0);
        Check.due("rows stay until the next run", Check.row(x, 0), "@0");
        Check.again(x, text, 2, "@1", "105");
        x.addObject(2, 9);
        Check.again(x, text, 4, "@1", "n", "105", "0");
        x.setRoot(6, true);
        Check.again(x, text, 4, "@1", "n", "105", "9");
        x.setRoot(0, false);
        Check.again(x, text, 4, "n", "n", "0", "9");
        x.set(6, 0, 2, 3);
        Check.again(x, text, 4, "@6", "n", "105", "114");
        Check.due("refused", x.set(6, 0, 2, 7), false);
        Check.again(x, text, 4, "@6", "n", "105", "114");
    }

    /** Objects 0 .. 23 of one class, each with a link to the next one, the last with a link to 0, a root. */
    private static HeapQueries ring() {
        HeapQueries x = new HeapQueries();
        x.addClass(-1);
        for (int object = 0; object < 24; object++) {
            x.addObject(0, 1);
        }
        for (int object = 0; object < 24; object++) {
            x.set(object, 0, 2, (object + 1) % 24);
        }
        x.setRoot(0, true);
        return x;
    }

    /** Links to objects of the ring, beginning with one of them. */
    private static String[] links(int first, int count) {
        return IntStream.range(first, first + count).mapToObj(i -> "@" + i % 24).toArray(String[]::new);
    }

    private static void mostRows() {
        String select = "SELECT THIS FROM CLASS:0";
        Check.rows(ring(), (select + " UNION ").repeat(7) + select + " END", 192, links(0, 192));
        Check.rows(ring(), "SELECT THIS FROM OPEN ".repeat(7) + select + " CLOSE".repeat(7) + " END", 192, links(0, 24));
        Check.rows(ring(), "SELECT THIS" + " FIELD:0".repeat(35) + " FROM CLASS:0 END", 24, links(35, 24));
        Check.rows(ring(), "SELECT THIS FROM OPEN SELECT RETAINED THIS FROM CLASS:0 WHERE NOT THIS AT:0 CLOSE END",
                48, links(0, 24));
        String six = "SELECT RETAINED THIS FROM CLASS:0 UNION ".repeat(5) + "SELECT RETAINED THIS FROM CLASS:0";
        Check.rows(ring(), six + " END", 144, links(0, 144));
    }
}
