/** What README.md shows under Use: the calls of its example in their order, and its lists of refusals and errors. */
public final class ReadmeTest {
    public static void main(String[] args) {
        example();
        refusals();
        errors();
        Check.end();
    }

    private static void example() {
        HeapQueries x = new HeapQueries();
        int c = x.addClass(HeapQueries.NONE);
        int a = x.addObject(c, 10);
        int b = x.addObject(c, 20);
        Check.due("addClass(NONE)", c, 0);
        Check.due("addObject(c, 10)", a, 0);
        Check.due("addObject(c, 20)", b, 1);
        Check.due("setRoot(a, true)", x.setRoot(a, true), true);
        Check.due("set(a, 0, 2, b)", x.set(a, 0, 2, b), true);
        Check.due("dominator(b)", x.dominator(b), 0);
        Check.due("retained(a)", x.retained(a), 30);
        int[][] tokens = {{0, 0}, {12, 0}, {14, 3}, {3, 0}, {8, 0}, {24, 0}};
        for (int[] token : tokens) {
            Check.due("token(" + token[0] + ", " + token[1] + ")", x.token(token[0], token[1]), true);
        }
        Check.due("run()", x.run(), 2);
        Check.due("kind(0)", x.kind(0), 1);
        Check.due("value(0)", x.value(0), 30);
        Check.due("kind(1)", x.kind(1), 1);
        Check.due("value(1)", x.value(1), 20);
        Check.due("looked()", x.looked(), 2);
        x.clear();
        Check.due("tokens()", x.tokens(), 0);
        Check.due("rows()", x.rows(), 2);
    }

    private static void refusals() {
        HeapQueries x = Heaps.ofOneClass(1);
        Check.due("addClass(1)", x.addClass(1), HeapQueries.NONE);
        Check.due("addObject(0, 1001)", x.addObject(0, 1001), HeapQueries.NONE);
        Check.due("set(0, 4, 0, 0)", x.set(0, 4, 0, 0), false);
        Check.due("setRoot(1, true)", x.setRoot(1, true), false);
        Check.due("dominator(0)", x.dominator(0), HeapQueries.NONE);
        Check.due("dominator(1)", x.dominator(1), -2);
        Check.due("retained(0)", x.retained(0), 0);
        Check.due("retained(1)", x.retained(1), HeapQueries.NONE);
        Check.due("token(24, 0)", x.token(24, 0), false);
        Check.noRow(x, "no run yet", 0);
    }

    private static void errors() {
        HeapQueries x = Heaps.ofOneClass(1);
        Check.rows(x, "SELECT THIS FROM CLASS:0 END", 1, "@0");
        Check.write(x, "SELECT THIS FROM CLASS:0");
        Check.due("run() without END", x.run(), HeapQueries.INCOMPLETE);
        Check.latest(x, "the rows of the run before", 1, "@0");
        Check.error(x, "SELECT NUMBER:1 FIELD:0 FROM CLASS:0 END", 1, HeapQueries.PATH);
        Check.error(x, "SELECT NUMBER:1 AT:0 FROM CLASS:0 END", 1, HeapQueries.PATH);
        Check.error(x, "SELECT THIS FROM CLASS:0 WHERE THIS END", 1, HeapQueries.TYPE);
        Check.error(x, "SELECT THIS PLUS NUMBER:1 FROM CLASS:0 END", 1, HeapQueries.TYPE);
        Check.rows(x, "SELECT THIS EQ NUMBER:1 FROM CLASS:0 END", 1, "0");
        Check.rows(x, "SELECT THIS NE NUMBER:1 FROM CLASS:0 END", 1, "1");
        Check.error(x, "SELECT THIS FROM OPEN SELECT NUMBER:0 FROM CLASS:0 CLOSE END", 1, HeapQueries.OBJECTS);
        Check.error(x, "SELECT RETAINED NUMBER:0 FROM CLASS:0 END", 1, HeapQueries.OBJECTS);
    }
}
