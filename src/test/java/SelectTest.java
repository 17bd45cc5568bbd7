/** What the document says of working out a query: its selects, their sources, WHERE, RETAINED and DISTINCT. */
public final class SelectTest {
    private static final int PATH = HeapQueries.PATH;
    private static final int TYPE = HeapQueries.TYPE;
    private static final int OBJECTS = HeapQueries.OBJECTS;

    public static void main(String[] args) {
        queries();
        sources();
        looks();
        rows();
        Check.end();
    }

    private static void queries() {
        Check.sentence("the first error that is met ends everything", SelectTest::firstErrorEnds);
        Check.sentence("an error leaves nothing of what was there before it", SelectTest::nothingBeforeError);
        Check.sentence("worked out from left to right, their rows one behind the other", SelectTest::leftToRight);
    }

    private static void sources() {
        Check.sentence("CLASS n: the objects whose class is n", SelectTest::objectsOfClass);
        Check.sentence("INSTANCEOF n: whose class is n or has n among its ancestors", SelectTest::instances);
        Check.sentence("by ascending numbers", SelectTest::ascending);
        Check.sentence("OPEN query CLOSE: that query is worked out", SelectTest::nestedQuery);
        Check.sentence("if one of its rows is a number: error OBJECTS", SelectTest::nestedNumber);
        Check.sentence("in the order of the rows", SelectTest::nestedOrder);
        Check.sentence("(an object may come several times)", SelectTest::nestedRepeated);
        Check.sentence("rows that are null give nothing", SelectTest::nestedNull);
        Check.sentence("a query without rows gives no objects", SelectTest::nestedWithoutRows);
    }

    private static void looks() {
        Check.sentence("for each object of the list: THIS is a link to it", SelectTest::thisIsTheObject);
        Check.sentence("WHERE: when that is a link: error TYPE", SelectTest::whereLink);
        Check.sentence("WHERE: null or the number 0, the object gives no row", SelectTest::whereNothing);
        Check.sentence("WHERE: otherwise its value is a row", SelectTest::whereHolds);
        Check.sentence("WHERE is worked out before the e behind SELECT", SelectTest::whereFirst);
        Check.sentence("without a row, the e behind SELECT is not worked out", SelectTest::notWorkedOut);
    }

    private static void rows() {
        Check.sentence("RETAINED: if one of the rows is a number: error OBJECTS", SelectTest::retainedNumber);
        Check.sentence("RETAINED: when all objects were looked at", SelectTest::retainedAfterAll);
        Check.sentence("RETAINED: the rows of this select", SelectTest::retainedOfThisSelect);
        Check.sentence("RETAINED: the set retained by all that its rows link to", SelectTest::retainedSet);
        Check.sentence("RETAINED: no rows, or rows that are null", SelectTest::retainedWithoutLinks);
        Check.sentence("RETAINED: links by ascending numbers", SelectTest::retainedAscending);
        Check.sentence("with DISTINCT and without RETAINED", SelectTest::distinctAndRetained);
        Check.sentence("DISTINCT: equal to an earlier row is left out", SelectTest::distinct);
        Check.sentence("DISTINCT: an earlier row of it", SelectTest::distinctOfThisSelect);
        Check.sentence("VALUES ARE EQUAL: both null, both the same number, both links to the same object",
                SelectTest::equalValues);
    }

    private static void firstErrorEnds() {
        HeapQueries x = Heaps.family();
        Check.error(x, "SELECT NOT THIS FROM CLASS:1 END", 1, TYPE);
        Check.error(x, "SELECT NOT THIS FROM CLASS:1 UNION SELECT NUMBER:1 AT:1 FROM CLASS:3 END", 1, TYPE);
        Check.error(x, "SELECT NUMBER:1 AT:1 FROM CLASS:3 UNION SELECT NOT THIS FROM CLASS:1 END", 1, PATH);
        Check.error(x, "SELECT THIS FROM CLASS:1 UNION SELECT NOT THIS FROM CLASS:3 UNION SELECT THIS FROM CLASS:0 END",
                3, TYPE);
        Check.error(x, "SELECT THIS FIELD:3 FIELD:0 FROM INSTANCEOF:0 END", 2, PATH);
        Check.error(x, "SELECT NOT THIS FROM OPEN SELECT THIS FIELD:3 FIELD:0 FROM INSTANCEOF:0 CLOSE END", 2, PATH);
        Check.error(x, "SELECT RETAINED NUMBER:1 FROM CLASS:1 UNION SELECT NOT THIS FROM CLASS:1 END", 2, OBJECTS);
        String from = "SELECT THIS FROM OPEN ";
        Check.error(x, from + "SELECT NOT THIS FROM CLASS:1 UNION SELECT NUMBER:1 FROM CLASS:0 CLOSE END", 1, TYPE);
        Check.error(x, from + "SELECT NUMBER:1 FROM CLASS:1 UNION SELECT NOT THIS FROM CLASS:0 CLOSE END", 3, TYPE);
    }

    private static void nothingBeforeError() {
        HeapQueries x = Heaps.family();
        Check.rows(x, "SELECT THIS FROM INSTANCEOF:0 END", 4, "@0", "@1", "@2", "@3");
        Check.error(x, "SELECT THIS FROM CLASS:1 UNION SELECT NOT THIS FROM CLASS:0 END", 3, TYPE);
        Check.rows(x, "SELECT THIS FROM CLASS:1 END", 2, "@1", "@2");
        Check.error(x, "SELECT THIS FROM OPEN SELECT THIS AT:0 FROM CLASS:1 CLOSE END", 2, OBJECTS);
        Check.rows(x, "SELECT NUMBER:3 FROM CLASS:1 END", 2, "3", "3");
        Check.error(x, "SELECT NUMBER:3 AT:0 FROM CLASS:1 END", 1, PATH);
    }

    private static void leftToRight() {
        HeapQueries x = Heaps.family();
        Check.rows(x, "SELECT THIS FROM CLASS:3 UNION SELECT NULL FROM CLASS:0 UNION SELECT THIS AT:2 FROM CLASS:1 END",
                5, "@4", "@5", "n", "20", "30");
        Check.rows(x, "SELECT THIS AT:2 FROM CLASS:1 UNION SELECT THIS FROM CLASS:3 UNION SELECT NULL FROM CLASS:0 END",
                5, "20", "30", "@4", "@5", "n");
        Check.rows(x, "SELECT THIS FROM CLASS:1 UNION SELECT THIS FROM CLASS:1 END", 4, "@1", "@2", "@1", "@2");
        Check.rows(x, "SELECT THIS FROM CLASS:1 WHERE NULL UNION SELECT THIS FROM CLASS:0 END", 3, "@0");
        Check.rows(x, "SELECT THIS FROM OPEN SELECT THIS FROM CLASS:3 UNION SELECT THIS FROM CLASS:0 CLOSE"
                + " UNION SELECT THIS FROM CLASS:1 END", 8, "@4", "@5", "@0", "@1", "@2");
    }

    private static void objectsOfClass() {
        HeapQueries x = Heaps.family();
        Check.rows(x, "SELECT THIS FROM CLASS:0 END", 1, "@0");
        Check.rows(x, "SELECT THIS FROM CLASS:1 END", 2, "@1", "@2");
        Check.rows(x, "SELECT THIS FROM CLASS:2 END", 1, "@3");
        Check.rows(x, "SELECT THIS FROM CLASS:3 END", 2, "@4", "@5");
        x.addClass(3);
        Check.rows(x, "SELECT THIS FROM CLASS:4 END", 0);
    }

    private static void instances() {
        HeapQueries x = Heaps.family();
        Check.rows(x, "SELECT THIS FROM INSTANCEOF:0 END", 4, "@0", "@1", "@2", "@3");
        Check.rows(x, "SELECT THIS FROM INSTANCEOF:1 END", 3, "@1", "@2", "@3");
        Check.rows(x, "SELECT THIS FROM INSTANCEOF:2 END", 1, "@3");
        Check.rows(x, "SELECT THIS FROM INSTANCEOF:3 END", 2, "@4", "@5");
        x.addClass(3);
        Check.rows(x, "SELECT THIS FROM INSTANCEOF:4 END", 0);
        x.addObject(4, 1);
        Check.rows(x, "SELECT THIS FROM INSTANCEOF:3 END", 3, "@4", "@5", "@6");
        Check.rows(x, "SELECT THIS FROM INSTANCEOF:4 END", 1, "@6");
    }

    private static void ascending() {
        HeapQueries x = new HeapQueries();
        x.addClass(-1);
        x.addClass(0);
        x.addClass(1);
        for (int c : new int[] {2, 0, 1, 2, 1, 0}) {
            x.addObject(c, 1);
        }
        Check.rows(x, "SELECT THIS FROM INSTANCEOF:0 END", 6, "@0", "@1", "@2", "@3", "@4", "@5");
        Check.rows(x, "SELECT THIS FROM INSTANCEOF:1 END", 4, "@0", "@2", "@3", "@4");
        Check.rows(x, "SELECT THIS FROM CLASS:2 END", 2, "@0", "@3");
        Check.rows(x, "SELECT THIS FROM CLASS:0 END", 2, "@1", "@5");
    }

    private static void nestedQuery() {
        HeapQueries x = Heaps.family();
        Check.rows(x, "SELECT THIS AT:0 FROM OPEN SELECT THIS FIELD:0 FROM INSTANCEOF:0 CLOSE END", 8,
                "1", "3", "3", "4");
        Check.rows(x, "SELECT THIS AT:2 FROM OPEN SELECT THIS FROM OPEN SELECT THIS FROM CLASS:3 CLOSE"
                + " WHERE THIS AT:0 EQ NUMBER:5 CLOSE END", 5, "7");
        Check.rows(x, "SELECT THIS FROM OPEN SELECT DISTINCT THIS FIELD:0 FROM CLASS:1 CLOSE END", 3, "@3");
        Check.rows(x, "SELECT THIS AT:2 FROM OPEN SELECT RETAINED THIS FROM CLASS:2 CLOSE END", 3, "5", "100");
    }

    private static void nestedNumber() {
        HeapQueries x = Heaps.family();
        String from = "SELECT NOT THIS FROM OPEN ";
        Check.error(x, from + "SELECT THIS AT:0 FROM CLASS:1 CLOSE END", 2, OBJECTS);
        Check.error(x, from + "SELECT NUMBER:0 FROM CLASS:0 CLOSE END", 1, OBJECTS);
        Check.error(x, from + "SELECT THIS FIELD:3 FROM INSTANCEOF:0 CLOSE END", 4, OBJECTS);
        Check.error(x, from + "SELECT NUMBER:0 FROM CLASS:0 UNION SELECT THIS FROM CLASS:1 CLOSE END", 3, OBJECTS);
        Check.error(x, from + "SELECT THIS FROM CLASS:1 UNION SELECT NUMBER:5 FROM CLASS:0 CLOSE END", 3, OBJECTS);
        Check.error(x, from + "SELECT THIS FROM OPEN SELECT NUMBER:1 FROM CLASS:0 CLOSE CLOSE END", 1, OBJECTS);
        Check.rows(x, "SELECT THIS FROM OPEN SELECT NUMBER:1 FROM CLASS:0 WHERE NULL CLOSE END", 1);
        Check.rows(x, "SELECT NUMBER:1 FROM CLASS:0 UNION SELECT THIS FROM OPEN SELECT THIS FROM CLASS:1 CLOSE END", 5,
                "1", "@1", "@2");
    }

    private static void nestedOrder() {
        HeapQueries x = Heaps.ofOneClass(4);
        for (int object = 0; object < 4; object++) {
            x.set(object, 0, 2, 3 - object);
        }
        Check.rows(x, "SELECT THIS FROM OPEN SELECT THIS FIELD:0 FROM CLASS:0 CLOSE END", 8, "@3", "@2", "@1", "@0");
        Check.rows(x, "SELECT THIS FIELD:0 FROM OPEN SELECT THIS FIELD:0 FROM CLASS:0 CLOSE END", 8,
                "@0", "@1", "@2", "@3");
        Check.rows(x, "SELECT THIS FROM OPEN SELECT THIS FIELD:0 FROM CLASS:0 WHERE THIS AT:0 LESS NUMBER:1"
                + " UNION SELECT THIS FROM CLASS:0 WHERE THIS AT:0 LESS NUMBER:2 CLOSE END", 11, "@3", "@0", "@1");
    }

    private static void nestedRepeated() {
        HeapQueries x = Heaps.family();
        Check.rows(x, "SELECT THIS FROM OPEN SELECT THIS FIELD:0 FROM CLASS:1 CLOSE END", 4, "@3", "@3");
        Check.rows(x, "SELECT THIS FROM OPEN SELECT THIS FROM CLASS:1 UNION SELECT THIS FROM CLASS:1 CLOSE END", 8,
                "@1", "@2", "@1", "@2");
        Check.rows(x, "SELECT NUMBER:7 FROM OPEN SELECT THIS AT:4 FROM CLASS:1 CLOSE END", 4, "7", "7");
        Check.error(x, "SELECT NOT THIS FROM OPEN SELECT THIS AT:4 FROM CLASS:1 CLOSE END", 3, TYPE);
    }

    private static void nestedNull() {
        HeapQueries x = Heaps.family();
        Check.rows(x, "SELECT THIS FROM OPEN SELECT THIS FIELD:2 FROM INSTANCEOF:3 CLOSE END", 3, "@3");
        Check.rows(x, "SELECT THIS FROM OPEN SELECT THIS AT:4 FROM INSTANCEOF:0 CLOSE END", 7, "@0", "@0", "@0");
        Check.rows(x, "SELECT NULL FROM OPEN SELECT NULL FROM INSTANCEOF:0 CLOSE END", 4);
        Check.rows(x, "SELECT THIS FROM OPEN SELECT NULL FROM CLASS:0 UNION SELECT THIS FROM CLASS:1"
                + " UNION SELECT NULL FROM CLASS:1 UNION SELECT THIS FROM CLASS:0 CLOSE END", 9, "@1", "@2", "@0");
    }

    private static void nestedWithoutRows() {
        HeapQueries x = Heaps.family();
        x.addClass(-1);
        Check.rows(x, "SELECT NOT THIS FROM OPEN SELECT NOT THIS FROM CLASS:4 CLOSE END", 0);
        Check.rows(x, "SELECT NOT THIS FROM OPEN SELECT THIS FROM CLASS:1 WHERE NULL CLOSE END", 2);
        Check.rows(x, "SELECT NOT THIS FROM OPEN SELECT RETAINED THIS FROM CLASS:3 WHERE THIS AT:2 EQ NUMBER:7"
                + " CLOSE END", 2);
        Check.rows(x, "SELECT THIS FROM OPEN SELECT THIS FROM CLASS:4 CLOSE UNION SELECT THIS FROM CLASS:0 END", 1,
                "@0");
    }

    private static void thisIsTheObject() {
        HeapQueries x = Heaps.family();
        Check.rows(x, "SELECT THIS FROM CLASS:3 WHERE THIS AT:0 EQ NUMBER:5 END", 2, "@5");
        Check.rows(x, "SELECT THIS AT:0 TIMES THIS AT:2 FROM CLASS:3 END", 2, "400", "35");
        Check.rows(x, "SELECT THIS AT:0 FROM OPEN SELECT THIS FIELD:0 FROM CLASS:3 WHERE THIS AT:0 EQ NUMBER:5 CLOSE"
                + " WHERE THIS AT:0 EQ NUMBER:4 END", 3, "4");
    }

    private static void whereLink() {
        HeapQueries x = Heaps.family();
        Check.error(x, "SELECT NULL FROM CLASS:1 WHERE THIS END", 1, TYPE);
        Check.error(x, "SELECT NULL FROM CLASS:3 WHERE THIS FIELD:2 END", 1, TYPE);
        Check.error(x, "SELECT NULL FROM INSTANCEOF:0 WHERE THIS AT:4 END", 2, TYPE);
        x.addClass(-1);
        Check.rows(x, "SELECT NULL FROM CLASS:4 WHERE THIS END", 0);
    }

    private static void whereNothing() {
        HeapQueries x = Heaps.family();
        Check.rows(x, "SELECT THIS FROM CLASS:1 WHERE NULL END", 2);
        Check.rows(x, "SELECT THIS FROM CLASS:1 WHERE NUMBER:0 END", 2);
        Check.rows(x, "SELECT THIS FROM INSTANCEOF:0 WHERE THIS FIELD:3 END", 4, "@1", "@2");
        Check.rows(x, "SELECT THIS FROM INSTANCEOF:0 WHERE THIS AT:0 END", 4, "@1", "@2", "@3");
    }

    private static void whereHolds() {
        HeapQueries x = Heaps.family();
        for (String n : new String[] {"1", "2", "-1", "256", "65536", "2147483647", "-2147483648"}) {
            Check.rows(x, "SELECT THIS FROM CLASS:1 WHERE NUMBER:" + n + " END", 2, "@1", "@2");
        }
        Check.rows(x, "SELECT NULL FROM CLASS:1 WHERE NUMBER:1 END", 2, "n", "n");
        Check.rows(x, "SELECT NUMBER:0 FROM CLASS:1 WHERE NUMBER:1 END", 2, "0", "0");
    }

    private static void whereFirst() {
        HeapQueries x = Heaps.family();
        Check.error(x, "SELECT NUMBER:1 FIELD:0 FROM CLASS:1 WHERE THIS END", 1, TYPE);
        Check.error(x, "SELECT NOT THIS FROM CLASS:1 WHERE NUMBER:1 FIELD:0 END", 1, PATH);
        Check.error(x, "SELECT THIS FIELD:1 FIELD:0 FROM INSTANCEOF:1 WHERE THIS FIELD:3 NE NULL OR THIS END", 3, TYPE);
    }

    private static void notWorkedOut() {
        HeapQueries x = Heaps.family();
        Check.rows(x, "SELECT NUMBER:1 FIELD:0 FROM CLASS:1 WHERE NUMBER:0 END", 2);
        Check.rows(x, "SELECT NOT THIS FROM CLASS:1 WHERE NULL END", 2);
        Check.error(x, "SELECT NUMBER:1 FIELD:0 FROM INSTANCEOF:0 WHERE THIS AT:0 EQ NUMBER:2 END", 3, PATH);
    }

    private static void retainedNumber() {
        HeapQueries x = Heaps.family();
        Check.error(x, "SELECT RETAINED NUMBER:0 FROM CLASS:0 END", 1, OBJECTS);
        Check.error(x, "SELECT RETAINED THIS FIELD:3 FROM INSTANCEOF:0 END", 4, OBJECTS);
        Check.error(x, "SELECT DISTINCT RETAINED THIS AT:0 FROM CLASS:1 END", 2, OBJECTS);
        x.set(2, 0, 1, 3);
        Check.error(x, "SELECT RETAINED THIS FIELD:0 FROM CLASS:1 END", 2, OBJECTS);
        x.set(2, 0, 2, 3);
        x.set(1, 0, 1, 3);
        Check.error(x, "SELECT RETAINED THIS FIELD:0 FROM CLASS:1 END", 2, OBJECTS);
        Check.rows(x, "SELECT RETAINED NUMBER:0 FROM CLASS:1 WHERE NULL END", 2);
    }

    private static void retainedAfterAll() {
        HeapQueries x = Heaps.family();
        Check.error(x, "SELECT RETAINED NUMBER:0 FROM INSTANCEOF:0 END", 4, OBJECTS);
        Check.error(x, "SELECT RETAINED THIS FIELD:3 FROM INSTANCEOF:1 WHERE THIS AT:1 LESS NUMBER:2 OR THIS END",
                3, TYPE);
        Check.error(x, "SELECT RETAINED THIS FIELD:1 AT:0 FROM INSTANCEOF:0 END", 4, PATH);
    }

    private static void retainedOfThisSelect() {
        HeapQueries x = Heaps.family();
        Check.rows(x, "SELECT NUMBER:4 FROM CLASS:0 UNION SELECT RETAINED THIS FROM CLASS:2 END", 2, "4", "@3", "@4");
        Check.rows(x, "SELECT RETAINED THIS FROM CLASS:2 UNION SELECT NUMBER:4 FROM CLASS:0 END", 2, "@3", "@4", "4");
        Check.rows(x, "SELECT THIS FROM CLASS:1 UNION SELECT RETAINED THIS FROM CLASS:2 END", 3,
                "@1", "@2", "@3", "@4");
        Check.rows(x, "SELECT RETAINED THIS FROM CLASS:2 UNION SELECT RETAINED THIS FROM CLASS:2 END", 2,
                "@3", "@4", "@3", "@4");
    }

    private static void retainedSet() {
        HeapQueries x = Heaps.family();
        Check.rows(x, "SELECT RETAINED THIS FROM CLASS:1 WHERE THIS AT:0 EQ NUMBER:1 END", 2, "@1");
        Check.rows(x, "SELECT RETAINED THIS FROM CLASS:1 END", 2, "@1", "@2", "@3", "@4");
        Check.rows(x, "SELECT RETAINED THIS FROM CLASS:0 END", 1, "@0", "@1", "@2", "@3", "@4");
        Check.rows(x, "SELECT RETAINED THIS FROM CLASS:3 END", 2, "@4");
        Check.rows(x, "SELECT RETAINED THIS FIELD:0 FROM CLASS:3 WHERE THIS AT:0 EQ NUMBER:5 END", 2, "@4");
        Check.rows(x, "SELECT RETAINED THIS FROM CLASS:3 WHERE THIS AT:0 EQ NUMBER:5 END", 2);
        Check.rows(x, "SELECT RETAINED THIS FIELD:0 FROM CLASS:1 END", 2, "@3", "@4");
        Check.rows(x, "SELECT RETAINED THIS FROM OPEN SELECT THIS FIELD:0 FROM CLASS:1 CLOSE END", 4, "@3", "@4");
    }

    private static void retainedWithoutLinks() {
        HeapQueries x = Heaps.family();
        Check.rows(x, "SELECT RETAINED NULL FROM CLASS:3 END", 2);
        Check.rows(x, "SELECT RETAINED THIS FROM CLASS:0 WHERE NULL END", 1);
        Check.rows(x, "SELECT RETAINED THIS FIELD:2 FROM INSTANCEOF:3 END", 2, "@3", "@4");
        x.addClass(-1);
        Check.rows(x, "SELECT RETAINED THIS FROM CLASS:4 END", 0);
    }

    private static void retainedAscending() {
        HeapQueries x = Heaps.ofOneClass(4);
        x.setRoot(3, true);
        x.set(3, 0, 2, 1);
        x.set(1, 0, 2, 2);
        x.set(2, 0, 2, 0);
        Check.rows(x, "SELECT RETAINED THIS FROM CLASS:0 WHERE THIS AT:0 EQ NUMBER:3 END", 4, "@0", "@1", "@2", "@3");
        Check.rows(x, "SELECT RETAINED THIS FIELD:0 FROM CLASS:0 END", 4, "@0", "@1", "@2");
    }

    private static void distinctAndRetained() {
        HeapQueries x = Heaps.family();
        Check.rows(x, "SELECT DISTINCT RETAINED THIS FROM CLASS:1 END", 2, "@1", "@2", "@3", "@4");
        Check.rows(x, "SELECT DISTINCT RETAINED THIS FIELD:0 FROM CLASS:1 END", 2, "@3", "@4");
        Check.rows(x, "SELECT DISTINCT RETAINED NULL FROM CLASS:1 END", 2);
        Check.rows(x, "SELECT DISTINCT THIS FIELD:0 FROM CLASS:1 END", 2, "@3");
    }

    private static void distinct() {
        HeapQueries x = Heaps.ofOneClass(7);
        int[][] values = {{1, 5}, {2, 5}, {0, 0}, {1, 5}, {2, 5}, {0, 0}, {1, 4}};
        for (int object = 0; object < 7; object++) {
            x.set(object, 0, values[object][0], values[object][1]);
        }
        Check.rows(x, "SELECT THIS FIELD:0 FROM CLASS:0 END", 7, "5", "@5", "n", "5", "@5", "n", "4");
        Check.rows(x, "SELECT DISTINCT THIS FIELD:0 FROM CLASS:0 END", 7, "5", "@5", "n", "4");
        Check.rows(x, "SELECT DISTINCT NUMBER:3 FROM CLASS:0 END", 7, "3");
        Check.rows(x, "SELECT DISTINCT NUMBER:3 FROM CLASS:0 WHERE NULL END", 7);
        Check.rows(x, "SELECT DISTINCT THIS FROM CLASS:0 END", 7, "@0", "@1", "@2", "@3", "@4", "@5", "@6");
    }

    private static void distinctOfThisSelect() {
        HeapQueries x = Heaps.family();
        Check.rows(x, "SELECT DISTINCT NUMBER:1 FROM CLASS:1 UNION SELECT DISTINCT NUMBER:1 FROM CLASS:3 END", 4,
                "1", "1");
        Check.rows(x, "SELECT NUMBER:1 FROM CLASS:1 UNION SELECT DISTINCT NUMBER:1 FROM CLASS:3 END", 4,
                "1", "1", "1");
        Check.rows(x, "SELECT DISTINCT NUMBER:1 FROM CLASS:1 UNION SELECT NUMBER:1 FROM CLASS:3 END", 4,
                "1", "1", "1");
        Check.rows(x, "SELECT DISTINCT THIS FROM OPEN SELECT THIS FIELD:0 FROM INSTANCEOF:0 CLOSE END", 8,
                "@1", "@3", "@4");
    }

    private static void equalValues() {
        HeapQueries x = Heaps.ofOneClass(4);
        int[][] values = {{0, 0}, {1, 0}, {2, 0}, {1, 1}};
        for (int object = 0; object < 4; object++) {
            x.set(object, 0, values[object][0], values[object][1]);
        }
        Check.rows(x, "SELECT DISTINCT THIS FIELD:0 FROM CLASS:0 END", 4, "n", "0", "@0", "1");
        x.set(1, 0, 2, 1);
        x.set(3, 0, 1, 0);
        Check.rows(x, "SELECT DISTINCT THIS FIELD:0 FROM CLASS:0 END", 4, "n", "@1", "@0", "0");
        x.set(0, 0, 1, Check.MIN);
        x.set(1, 0, 1, Check.MAX);
        x.set(2, 0, 1, Check.MIN);
        x.set(3, 0, 1, -1);
        Check.rows(x, "SELECT DISTINCT THIS FIELD:0 FROM CLASS:0 END", 4, "-2147483648", "2147483647", "-1");
    }
}
