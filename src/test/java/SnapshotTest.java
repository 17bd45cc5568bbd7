/** Promises 1 to 5: a new object, addClass, addObject, set, setRoot. */
public final class SnapshotTest {
    private static final int NONE = HeapQueries.NONE;
    private static final int MAX = Integer.MAX_VALUE;
    private static final int MIN = Integer.MIN_VALUE;

    public static void main(String[] args) {
        newObject();
        addClass();
        addObject();
        set();
        setRoot();
        Check.end();
    }

    private static void newObject() {
        HeapQueries x = new HeapQueries();
        Check.due("new: tokens()", x.tokens(), 0);
        Check.due("new: depth()", x.depth(), 0);
        Check.due("new: rows()", x.rows(), 0);
        Check.due("new: looked()", x.looked(), 0);
        Check.due("new: run()", x.run(), HeapQueries.INCOMPLETE);
        Check.noRow(x, "new", 0);
        Check.due("new: dominator(0)", x.dominator(0), -2);
        Check.due("new: retained(0)", x.retained(0), NONE);
        Check.due("new: addObject(0, 1)", x.addObject(0, 1), NONE);
        Check.due("new: set(0, 0, 0, 0)", x.set(0, 0, 0, 0), false);
        Check.due("new: setRoot(0, true)", x.setRoot(0, true), false);
        Check.due("new: SELECT", Check.give(x, "SELECT"), true);
        HeapQueries other = new HeapQueries();
        Check.due("another new one: tokens()", other.tokens(), 0);
        Check.due("another new one: addClass(0)", other.addClass(0), NONE);
    }

    private static void addClass() {
        HeapQueries x = new HeapQueries();
        for (int wrong : new int[] {0, 1, -2, MIN, MAX}) {
            Check.due("no class: addClass(" + wrong + ")", x.addClass(wrong), NONE);
        }
        Check.due("addClass(NONE)", x.addClass(NONE), 0);
        Check.due("addClass(itself)", x.addClass(1), NONE);
        Check.due("addClass(0)", x.addClass(0), 1);
        Check.due("addClass(-2)", x.addClass(-2), NONE);
        for (int c = 2; c < 8; c++) {
            Check.due("addClass(" + (c - 1) + ")", x.addClass(c - 1), c);
        }
        Check.due("ninth addClass(NONE)", x.addClass(NONE), NONE);
        Check.due("ninth addClass(0)", x.addClass(0), NONE);
        Check.due("addObject of class 7", x.addObject(7, 1), 0);
        Check.due("addObject of class 8", x.addObject(8, 1), NONE);
        Check.rows(x, "SELECT THIS FROM INSTANCEOF:0 END", 1, "@0");
        Check.rows(x, "SELECT THIS FROM CLASS:0 END", 0);
    }

    private static void addObject() {
        HeapQueries x = new HeapQueries();
        x.addClass(NONE);
        x.addClass(NONE);
        int[][] wrong = {{-1, 1}, {2, 1}, {MIN, 1}, {MAX, 1}, {0, 0}, {0, -1}, {0, 1001}, {0, MIN}, {0, MAX}};
        for (int[] a : wrong) {
            Check.due("addObject(" + a[0] + ", " + a[1] + ")", x.addObject(a[0], a[1]), NONE);
        }
        Check.due("addObject(1, 1000)", x.addObject(1, 1000), 0);
        for (int object = 1; object < 24; object++) {
            Check.due("addObject(0, " + object + ")", x.addObject(0, object), object);
        }
        Check.due("addObject, the 25th", x.addObject(0, 1), NONE);
        Check.due("dominator(23)", x.dominator(23), NONE);
        Check.due("dominator(24)", x.dominator(24), -2);
        Check.due("a new object is no root", x.retained(0), 0);
        Check.rows(x, "SELECT THIS AT:2 FROM CLASS:1 END", 1, "1000");
        Check.rows(x, "SELECT THIS AT:2 FROM CLASS:0 WHERE THIS AT:0 EQ NUMBER:23 END", 23, "23");
        for (int field = 0; field < 4; field++) {
            Check.rows(x, "SELECT THIS FIELD:" + field + " FROM CLASS:1 END", 1, "n");
        }
    }

    private static void set() {
        HeapQueries x = new HeapQueries();
        x.addClass(NONE);
        x.addObject(0, 1);
        x.addObject(0, 1);
        Check.due("set number", x.set(0, 0, 1, MIN), true);
        Check.due("set number", x.set(0, 1, 1, MAX), true);
        Check.due("set link", x.set(0, 2, 2, 1), true);
        Check.due("set link to itself", x.set(0, 3, 2, 0), true);
        int[][] wrong = {{-1, 0, 0, 0}, {2, 0, 0, 0}, {MIN, 0, 1, 0}, {MAX, 0, 1, 0}, {0, -1, 0, 0}, {0, 4, 0, 0},
            {0, MAX, 0, 0}, {0, MIN, 0, 0}, {1, -4, 0, 0}, {0, 0, -1, 0}, {0, 0, 3, 0}, {0, 0, MAX, 0}, {0, 0, MIN, 0},
            {0, 0, 2, 2}, {0, 0, 2, -1}, {0, 0, 2, MAX}, {0, 0, 2, MIN}};
        for (int[] a : wrong) {
            String call = "set(" + a[0] + ", " + a[1] + ", " + a[2] + ", " + a[3] + ")";
            Check.due(call, x.set(a[0], a[1], a[2], a[3]), false);
        }
        fields(x, Integer.toString(MIN), Integer.toString(MAX), "@1", "@0");
        Check.due("set null", x.set(0, 0, 0, MAX), true);
        Check.due("set number over link", x.set(0, 2, 1, 1), true);
        Check.due("set link over number", x.set(0, 1, 2, 1), true);
        Check.due("set null over link", x.set(0, 3, 0, -5), true);
        fields(x, "n", "@1", "1", "n");
    }

    private static void fields(HeapQueries x, String... want) {
        for (int field = 0; field < 4; field++) {
            String text = "SELECT THIS FIELD:" + field + " FROM CLASS:0 WHERE THIS AT:0 EQ NUMBER:0 END";
            Check.rows(x, text, 2, want[field]);
            String other = "SELECT THIS FIELD:" + field + " FROM CLASS:0 WHERE THIS AT:0 EQ NUMBER:1 END";
            Check.rows(x, other, 2, "n");
        }
    }

    private static void setRoot() {
        HeapQueries x = new HeapQueries();
        x.addClass(NONE);
        x.addObject(0, 5);
        for (int wrong : new int[] {-1, 1, 24, 32, MIN, MAX}) {
            Check.due("setRoot(" + wrong + ", true)", x.setRoot(wrong, true), false);
            Check.due("setRoot(" + wrong + ", false)", x.setRoot(wrong, false), false);
        }
        Check.due("no root yet", x.retained(0), 0);
        Check.due("setRoot(0, false), no change", x.setRoot(0, false), true);
        Check.due("still no root", x.retained(0), 0);
        Check.due("setRoot(0, true)", x.setRoot(0, true), true);
        Check.due("a root", x.retained(0), 5);
        Check.due("setRoot(0, true), no change", x.setRoot(0, true), true);
        Check.due("setRoot(1, false), refused", x.setRoot(1, false), false);
        Check.due("still a root", x.retained(0), 5);
        Check.due("setRoot(0, false)", x.setRoot(0, false), true);
        Check.due("no root any more", x.retained(0), 0);
    }
}
