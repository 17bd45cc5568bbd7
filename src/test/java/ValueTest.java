/** What the document says of the value of an e. */
public final class ValueTest {
    private static final int PATH = HeapQueries.PATH;
    private static final int TYPE = HeapQueries.TYPE;

    private static final String[] NOTHING = {"NULL", "NUMBER:0", "THIS FIELD:2", "NUMBER:1 MINUS NUMBER:1"};
    private static final String[] SOMETHING = {"NUMBER:1", "NUMBER:-7", "NUMBER:-2147483648", "THIS AT:2"};
    private static final String[] ARITHMETIC = {"PLUS", "MINUS", "TIMES"};

    public static void main(String[] args) {
        paths();
        order();
        arithmetic();
        logic();
        Check.end();
    }

    private static void paths() {
        Check.sentence("NUMBER n is the number n; NULL is null; OPEN e CLOSE is e", ValueTest::units);
        Check.sentence("m FIELD k: null if m is null", ValueTest::fieldOfNull);
        Check.sentence("m FIELD k: error PATH if m is a number", ValueTest::fieldOfNumber);
        Check.sentence("m FIELD k: the value in field k", ValueTest::fieldOfLink);
        Check.sentence("m AT k: null if m is null", ValueTest::factOfNull);
        Check.sentence("m AT k: error PATH if m is a number", ValueTest::factOfNumber);
        Check.sentence("AT 0 its number, 1 the number of its class, 2 its size", ValueTest::plainFacts);
        Check.sentence("AT 3 its retained size", ValueTest::retainedSize);
        Check.sentence("AT 4: a link to its immediate dominator, null if there is none", ValueTest::immediateDominator);
        Check.sentence("AT 5 how many fields of all objects (reachable or not) hold a link to it",
                ValueTest::linkCount);
    }

    private static void order() {
        Check.sentence("x MINUS y PLUS z is (x MINUS y) PLUS z", ValueTest::leftOnesFirst);
        Check.sentence("the lines of the grammar bind in their order", ValueTest::lines);
        Check.sentence("has its left operand worked out first", ValueTest::leftOperandFirst);
        Check.sentence("only then is it looked at what the operands are", ValueTest::operandsBeforeOperator);
        Check.sentence("THIS PLUS OPEN NUMBER 1 FIELD 0 CLOSE is the error PATH", ValueTest::documentsOwnCase);
    }

    private static void arithmetic() {
        Check.sentence("PLUS, MINUS, TIMES: error TYPE if an operand is a link", ValueTest::arithmeticOfLinks);
        Check.sentence("PLUS, MINUS, TIMES: otherwise null if an operand is null", ValueTest::arithmeticOfNull);
        Check.sentence("PLUS, MINUS, TIMES: the number, wrapping as int does", ValueTest::wrapping);
        Check.sentence("LESS: error TYPE if an operand is a link", ValueTest::lessOfLinks);
        Check.sentence("LESS: otherwise the number 0 if an operand is null", ValueTest::lessOfNull);
        Check.sentence("LESS: 1 if the left number is less than the right one, else 0", ValueTest::less);
        Check.sentence("EQ: the number 1 if the operands are equal, else 0. NE: 0 if they are equal, else 1",
                ValueTest::equality);
    }

    private static void logic() {
        Check.sentence("NOT x: error TYPE if x is a link", ValueTest::notOfLink);
        Check.sentence("NOT x: 1 if x is null or the number 0; otherwise 0", ValueTest::not);
        Check.sentence("x AND y: error TYPE if x is a link", ValueTest::andOfLink);
        Check.sentence("x AND y: if x is null or 0, the number 0, and y is not worked out", ValueTest::andDecided);
        Check.sentence("x AND y: otherwise error TYPE if y is a link", ValueTest::andWithLink);
        Check.sentence("x AND y: 0 if y is null or 0, else 1", ValueTest::and);
        Check.sentence("x OR y: error TYPE if x is a link", ValueTest::orOfLink);
        Check.sentence("x OR y: if x is neither null nor 0, the number 1, and y is not worked out",
                ValueTest::orDecided);
        Check.sentence("x OR y: otherwise error TYPE if y is a link", ValueTest::orWithLink);
        Check.sentence("x OR y: 0 if y is null or 0, else 1", ValueTest::or);
        Check.sentence("{AND b}, {OR a}: the left ones first", ValueTest::chains);
    }

    /** Works out an e with THIS being object 0 of the family. */
    private static void e(String e, String want) {
        Check.rows(Heaps.family(), "SELECT " + e + " FROM CLASS:0 END", 1, want);
    }

    private static void eError(String e, int error) {
        Check.error(Heaps.family(), "SELECT " + e + " FROM CLASS:0 END", 1, error);
        Check.error(Heaps.family(), "SELECT NULL FROM CLASS:0 WHERE " + e + " END", 1, error);
    }

    private static void units() {
        e("NUMBER:5", "5");
        e("NUMBER:2147483647", "2147483647");
        e("NUMBER:-2147483648", "-2147483648");
        e("NULL", "n");
        e("THIS", "@0");
        e("OPEN NUMBER:5 CLOSE", "5");
        e("OPEN OPEN NULL CLOSE CLOSE", "n");
        e("OPEN THIS CLOSE", "@0");
    }

    private static void fieldOfNull() {
        for (int k = 0; k < 4; k++) {
            e("NULL FIELD:" + k, "n");
            e("THIS FIELD:2 FIELD:" + k, "n");
            e("OPEN NULL CLOSE FIELD:" + k, "n");
        }
        e("THIS FIELD:2 FIELD:3 AT:5 FIELD:0", "n");
    }

    private static void fieldOfNumber() {
        for (int k = 0; k < 4; k++) {
            eError("NUMBER:0 FIELD:" + k, PATH);
            eError("THIS AT:0 FIELD:" + k, PATH);
        }
        eError("THIS FIELD:0 FIELD:3 FIELD:0", PATH);
        eError("OPEN THIS EQ THIS CLOSE FIELD:0", PATH);
    }

    private static void fieldOfLink() {
        e("THIS FIELD:0", "@1");
        e("THIS FIELD:1", "@2");
        e("THIS FIELD:2", "n");
        e("THIS FIELD:0 FIELD:3", "8");
        e("OPEN THIS FIELD:0 CLOSE FIELD:0", "@3");
        e("THIS FIELD:0 FIELD:0 FIELD:0 FIELD:2 FIELD:1", "-17");
    }

    private static void factOfNull() {
        for (int k = 0; k < 6; k++) {
            e("NULL AT:" + k, "n");
            e("THIS FIELD:2 AT:" + k, "n");
            e("OPEN NULL CLOSE AT:" + k, "n");
        }
        e("THIS AT:4 AT:4 AT:0", "n");
    }

    private static void factOfNumber() {
        for (int k = 0; k < 6; k++) {
            eError("NUMBER:0 AT:" + k, PATH);
            eError("THIS AT:0 AT:" + k, PATH);
        }
        eError("THIS FIELD:0 FIELD:3 AT:0", PATH);
        eError("OPEN NOT NULL CLOSE AT:0", PATH);
    }

    /** Compares AT k of the objects 0 .. 5 of a snapshot with the classes of the family. */
    private static void facts(HeapQueries x, int k, String... want) {
        String text = "SELECT THIS AT:" + k + " FROM INSTANCEOF:0 UNION SELECT THIS AT:" + k + " FROM INSTANCEOF:3 END";
        Check.rows(x, text, 6, want);
    }

    private static void plainFacts() {
        facts(Heaps.family(), 0, "0", "1", "2", "3", "4", "5");
        facts(Heaps.family(), 1, "0", "1", "1", "2", "3", "3");
        facts(Heaps.family(), 2, "10", "20", "30", "5", "100", "7");
        HeapQueries x = Heaps.full();
        Check.rows(x, "SELECT THIS AT:0 FROM CLASS:7 END", 3, "7", "15", "23");
        Check.rows(x, "SELECT THIS AT:1 FROM CLASS:7 END", 3, "7", "7", "7");
        Check.rows(x, "SELECT THIS AT:2 FROM CLASS:7 END", 3, "993", "985", "977");
    }

    private static void retainedSize() {
        HeapQueries x = Heaps.family();
        facts(x, 3, "165", "20", "30", "105", "100", "0");
        x.setRoot(5, true);
        facts(x, 3, "60", "20", "30", "5", "100", "7");
        x.setRoot(0, false);
        facts(x, 3, "0", "0", "0", "5", "105", "112");
    }

    private static void immediateDominator() {
        HeapQueries x = Heaps.family();
        facts(x, 4, "n", "@0", "@0", "@0", "@3", "n");
        Check.rows(x, "SELECT THIS AT:4 AT:4 FROM CLASS:3 END", 2, "@0", "n");
        Check.rows(x, "SELECT THIS AT:4 AT:4 AT:4 FROM CLASS:3 END", 2, "n", "n");
        Check.rows(x, "SELECT THIS AT:4 AT:0 FROM CLASS:1 END", 2, "0", "0");
        x.set(2, 0, 0, 0);
        facts(x, 4, "n", "@0", "@0", "@1", "@3", "n");
        x.setRoot(5, true);
        facts(x, 4, "n", "@0", "@0", "n", "n", "n");
    }

    private static void linkCount() {
        HeapQueries x = Heaps.family();
        facts(x, 5, "0", "1", "1", "3", "2", "0");
        x.set(1, 1, 2, 3);
        facts(x, 5, "0", "1", "1", "4", "2", "0");
        x.set(4, 0, 2, 4);
        facts(x, 5, "0", "1", "1", "4", "3", "0");
        x.set(5, 1, 2, 5);
        x.set(5, 2, 2, 0);
        facts(x, 5, "1", "1", "1", "4", "3", "1");
        x.set(1, 1, 1, 3);
        x.set(5, 1, 0, 5);
        facts(x, 5, "1", "1", "1", "3", "3", "0");
        HeapQueries most = Heaps.ofOneClass(24);
        for (int object = 0; object < 24; object++) {
            for (int field = 0; field < 4; field++) {
                most.set(object, field, 2, 23);
            }
        }
        Check.rows(most, "SELECT THIS AT:5 FROM CLASS:0 WHERE NUMBER:21 LESS THIS AT:0 END", 24, "0", "96");
    }

    private static void leftOnesFirst() {
        e("NUMBER:10 MINUS NUMBER:3 PLUS NUMBER:2", "9");
        e("NUMBER:10 MINUS NUMBER:3 MINUS NUMBER:2", "5");
        e("NUMBER:10 PLUS NUMBER:3 MINUS NUMBER:2 MINUS NUMBER:1", "10");
        e("NUMBER:10 MINUS OPEN NUMBER:3 MINUS NUMBER:2 CLOSE", "9");
        eError("THIS PLUS NULL PLUS NUMBER:1 FIELD:0", TYPE);
        eError("THIS TIMES NULL TIMES NUMBER:1 FIELD:0", TYPE);
        eError("NULL MINUS THIS PLUS NUMBER:1 FIELD:0", TYPE);
    }

    private static void lines() {
        e("NUMBER:2 PLUS NUMBER:3 TIMES NUMBER:4", "14");
        e("NUMBER:2 TIMES NUMBER:3 PLUS NUMBER:4", "10");
        e("NUMBER:20 MINUS NUMBER:3 TIMES NUMBER:4 MINUS NUMBER:1", "7");
        e("OPEN NUMBER:2 PLUS NUMBER:3 CLOSE TIMES NUMBER:4", "20");
        e("NUMBER:1 PLUS NUMBER:1 EQ NUMBER:2", "1");
        e("NUMBER:3 EQ NUMBER:1 PLUS NUMBER:2", "1");
        e("NUMBER:3 NE NUMBER:5 MINUS NUMBER:2", "0");
        e("NUMBER:3 LESS NUMBER:1 PLUS NUMBER:1", "0");
        e("NUMBER:6 EQ NUMBER:3 TIMES NUMBER:2", "1");
        e("NUMBER:1 PLUS OPEN NUMBER:1 EQ NUMBER:2 CLOSE", "1");
        e("NOT NUMBER:1 EQ NUMBER:2", "1");
        e("OPEN NOT NUMBER:1 CLOSE EQ NUMBER:0", "1");
        e("NOT NUMBER:0 AND NUMBER:0", "0");
        e("NOT OPEN NUMBER:0 AND NUMBER:0 CLOSE", "1");
        e("NOT NUMBER:1 OR NUMBER:1", "1");
        e("NUMBER:1 OR NUMBER:0 AND NUMBER:0", "1");
        e("OPEN NUMBER:1 OR NUMBER:0 CLOSE AND NUMBER:0", "0");
        e("NUMBER:0 AND NUMBER:0 OR NUMBER:1", "1");
        e("NUMBER:0 AND NUMBER:1 EQ NUMBER:0", "0");
        e("NUMBER:3 LESS NUMBER:2 TIMES NUMBER:2 OR NOT NUMBER:1", "1");
        e("NUMBER:3 TIMES THIS FIELD:0 FIELD:3", "24");
        e("THIS AT:0 PLUS THIS AT:2", "10");
    }

    private static void leftOperandFirst() {
        for (String operator : new String[] {"PLUS", "MINUS", "TIMES", "LESS", "EQ", "NE"}) {
            eError("OPEN NUMBER:1 FIELD:0 CLOSE " + operator + " OPEN THIS PLUS NULL CLOSE", PATH);
            eError("OPEN THIS PLUS NULL CLOSE " + operator + " OPEN NUMBER:1 FIELD:0 CLOSE", TYPE);
        }
        for (String operator : new String[] {"AND", "OR"}) {
            eError("NUMBER:1 FIELD:0 " + operator + " OPEN THIS PLUS NULL CLOSE", PATH);
            eError("OPEN THIS PLUS NULL CLOSE " + operator + " NUMBER:1 FIELD:0", TYPE);
        }
    }

    private static void operandsBeforeOperator() {
        for (String operator : new String[] {"PLUS", "MINUS", "TIMES", "LESS", "EQ", "NE"}) {
            eError("THIS " + operator + " OPEN NUMBER:1 FIELD:0 CLOSE", PATH);
            eError("NULL " + operator + " OPEN NUMBER:1 FIELD:0 CLOSE", PATH);
            eError("NULL " + operator + " OPEN NOT THIS CLOSE", TYPE);
            eError("NUMBER:0 " + operator + " NUMBER:1 AT:0", PATH);
        }
        eError("THIS PLUS NULL TIMES NUMBER:1 FIELD:0", PATH);
    }

    private static void documentsOwnCase() {
        eError("THIS PLUS OPEN NUMBER:1 FIELD:0 CLOSE", PATH);
    }

    private static void arithmeticOfLinks() {
        for (String operator : ARITHMETIC) {
            eError("THIS " + operator + " NUMBER:1", TYPE);
            eError("NUMBER:1 " + operator + " THIS", TYPE);
            eError("NUMBER:0 " + operator + " THIS FIELD:0", TYPE);
            eError("NULL " + operator + " THIS", TYPE);
            eError("THIS " + operator + " NULL", TYPE);
            eError("THIS " + operator + " THIS", TYPE);
        }
    }

    private static void arithmeticOfNull() {
        for (String operator : ARITHMETIC) {
            e("NULL " + operator + " NUMBER:1", "n");
            e("NUMBER:0 " + operator + " NULL", "n");
            e("NULL " + operator + " NULL", "n");
            e("NUMBER:1 " + operator + " NULL " + operator + " NUMBER:1", "n");
        }
    }

    private static void wrapping() {
        e("NUMBER:2 PLUS NUMBER:3", "5");
        e("NUMBER:2 MINUS NUMBER:3", "-1");
        e("NUMBER:2 TIMES NUMBER:-3", "-6");
        e("NUMBER:2147483647 PLUS NUMBER:1", "-2147483648");
        e("NUMBER:-2147483648 PLUS NUMBER:-1", "2147483647");
        e("NUMBER:-2147483648 PLUS NUMBER:-2147483648", "0");
        e("NUMBER:-2147483648 MINUS NUMBER:1", "2147483647");
        e("NUMBER:0 MINUS NUMBER:-2147483648", "-2147483648");
        e("NUMBER:2147483647 MINUS NUMBER:-1", "-2147483648");
        e("NUMBER:65536 TIMES NUMBER:65536", "0");
        e("NUMBER:65536 TIMES NUMBER:32768", "-2147483648");
        e("NUMBER:2147483647 TIMES NUMBER:2147483647", "1");
        e("NUMBER:-2147483648 TIMES NUMBER:-1", "-2147483648");
        e("NUMBER:2147483647 PLUS NUMBER:1 LESS NUMBER:0", "1");
        e("NUMBER:65536 TIMES NUMBER:65536 OR NUMBER:0", "0");
    }

    private static void lessOfLinks() {
        eError("THIS LESS NUMBER:1", TYPE);
        eError("NUMBER:1 LESS THIS", TYPE);
        eError("NULL LESS THIS", TYPE);
        eError("THIS LESS NULL", TYPE);
        eError("THIS LESS THIS", TYPE);
    }

    private static void lessOfNull() {
        e("NULL LESS NUMBER:2", "0");
        e("NULL LESS NUMBER:2147483647", "0");
        e("NUMBER:-2 LESS NULL", "0");
        e("NUMBER:-2147483648 LESS NULL", "0");
        e("NULL LESS NULL", "0");
    }

    private static void less() {
        e("NUMBER:1 LESS NUMBER:2", "1");
        e("NUMBER:2 LESS NUMBER:2", "0");
        e("NUMBER:3 LESS NUMBER:2", "0");
        e("NUMBER:-1 LESS NUMBER:0", "1");
        e("NUMBER:0 LESS NUMBER:-1", "0");
        e("NUMBER:-2147483648 LESS NUMBER:2147483647", "1");
        e("NUMBER:2147483647 LESS NUMBER:-2147483648", "0");
        e("NUMBER:-2147483648 LESS NUMBER:-2147483648", "0");
        e("NUMBER:-2147483648 LESS NUMBER:-2147483647", "1");
    }

    private static void equality() {
        String[] values = {"NULL", "NUMBER:0", "NUMBER:1", "NUMBER:-1", "NUMBER:-2147483648", "THIS", "THIS FIELD:0"};
        for (String left : values) {
            for (String right : values) {
                e(left + " EQ " + right, left.equals(right) ? "1" : "0");
                e(left + " NE " + right, left.equals(right) ? "0" : "1");
            }
        }
        e("THIS FIELD:0 FIELD:0 EQ THIS FIELD:1 FIELD:0", "1");
        e("THIS FIELD:0 AT:4 EQ THIS", "1");
        e("THIS FIELD:2 EQ NULL", "1");
        e("THIS FIELD:0 FIELD:3 EQ THIS FIELD:1 FIELD:3", "1");
        e("THIS FIELD:0 FIELD:3 NE THIS FIELD:1 FIELD:3", "0");
    }

    private static void notOfLink() {
        eError("NOT THIS", TYPE);
        eError("NOT NOT THIS", TYPE);
        eError("NOT THIS FIELD:1", TYPE);
        eError("NOT NUMBER:1 FIELD:0", PATH);
    }

    private static void not() {
        for (String nothing : NOTHING) {
            e("NOT " + nothing, "1");
            e("NOT NOT " + nothing, "0");
        }
        for (String something : SOMETHING) {
            e("NOT " + something, "0");
            e("NOT NOT " + something, "1");
        }
    }

    private static void andOfLink() {
        for (String y : new String[] {"NULL", "NUMBER:0", "NUMBER:1", "THIS", "NUMBER:1 FIELD:0"}) {
            eError("THIS AND " + y, TYPE);
            eError("THIS FIELD:1 AND " + y, TYPE);
        }
    }

    private static void andDecided() {
        for (String x : NOTHING) {
            for (String y : new String[] {"NULL", "NUMBER:0", "NUMBER:1", "THIS", "NUMBER:1 FIELD:0", "NOT THIS"}) {
                e(x + " AND " + y, "0");
            }
        }
    }

    private static void andWithLink() {
        for (String x : SOMETHING) {
            eError(x + " AND THIS", TYPE);
            eError(x + " AND THIS FIELD:0", TYPE);
            eError(x + " AND NUMBER:1 FIELD:0", PATH);
        }
    }

    private static void and() {
        for (String x : SOMETHING) {
            for (String y : NOTHING) {
                e(x + " AND " + y, "0");
            }
            for (String y : SOMETHING) {
                e(x + " AND " + y, "1");
            }
        }
    }

    private static void orOfLink() {
        for (String y : new String[] {"NULL", "NUMBER:0", "NUMBER:1", "THIS", "NUMBER:1 FIELD:0"}) {
            eError("THIS OR " + y, TYPE);
            eError("THIS FIELD:1 OR " + y, TYPE);
        }
    }

    private static void orDecided() {
        for (String x : SOMETHING) {
            for (String y : new String[] {"NULL", "NUMBER:0", "NUMBER:1", "THIS", "NUMBER:1 FIELD:0", "NOT THIS"}) {
                e(x + " OR " + y, "1");
            }
        }
    }

    private static void orWithLink() {
        for (String x : NOTHING) {
            eError(x + " OR THIS", TYPE);
            eError(x + " OR THIS FIELD:0", TYPE);
            eError(x + " OR NUMBER:1 FIELD:0", PATH);
        }
    }

    private static void or() {
        for (String x : NOTHING) {
            for (String y : NOTHING) {
                e(x + " OR " + y, "0");
            }
            for (String y : SOMETHING) {
                e(x + " OR " + y, "1");
            }
        }
    }

    private static void chains() {
        eError("NUMBER:1 AND NUMBER:1 AND THIS", TYPE);
        e("NUMBER:1 AND NUMBER:0 AND THIS", "0");
        e("NUMBER:0 AND THIS AND THIS", "0");
        e("NUMBER:0 AND THIS OR NUMBER:2", "1");
        e("NUMBER:1 OR THIS AND THIS", "1");
        e("NULL AND THIS AND THIS FIELD:0 FIELD:3 FIELD:0", "0");
        e("NULL OR NUMBER:3 OR THIS", "1");
        eError("NULL OR NUMBER:0 OR THIS", TYPE);
        eError("NULL OR THIS OR NUMBER:1", TYPE);
    }
}
