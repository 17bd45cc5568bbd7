/** What the document says of the snapshot, and promises 1 to 5: a new object, addClass, addObject, set, setRoot. */
public final class SnapshotTest {
    private static final int NONE = HeapQueries.NONE;
    private static final int MAX = Check.MAX;
    private static final int MIN = Check.MIN;

    public static void main(String[] args) {
        terms();
        promises();
        Check.end();
    }

    private static void terms() {
        Check.sentence("at most 8 CLASSES 0, 1, ..", SnapshotTest::atMostEightClasses);
        Check.sentence("at most 24 OBJECTS 0, 1, ..", SnapshotTest::atMostTwentyFourObjects);
        Check.sentence("numbered in the order in which they were made", SnapshotTest::numberedAsMade);
        Check.sentence("a PARENT, which is an older class", SnapshotTest::olderParent);
        Check.sentence("its ANCESTORS are its parent and the ancestors of its parent", SnapshotTest::ancestors);
        Check.sentence("a size 1 .. 1000", SnapshotTest::sizes);
        Check.sentence("four FIELDS 0 .. 3", SnapshotTest::fourFields);
        Check.sentence("a NUMBER (any int)", SnapshotTest::anyInt);
        Check.sentence("a LINK to an object (perhaps to the object itself)", SnapshotTest::links);
    }

    private static void promises() {
        Check.sentence("A new object: no classes", SnapshotTest::newWithoutClasses);
        Check.sentence("A new object: no objects", SnapshotTest::newWithoutObjects);
        Check.sentence("A new object: no tokens", SnapshotTest::newWithoutTokens);
        Check.sentence("A new object: no rows", SnapshotTest::newWithoutRows);
        Check.sentence("A new object: nothing of another object", SnapshotTest::newBesideAnother);
        Check.sentence("addClass: (NONE: without one)", SnapshotTest::classWithoutParent);
        Check.sentence("addClass: NONE when parent is neither NONE nor a class", SnapshotTest::noSuchParent);
        Check.sentence("addClass: NONE when eight classes are there", SnapshotTest::eightClassesAreThere);
        Check.sentence("addObject: no root", SnapshotTest::newObjectIsNoRoot);
        Check.sentence("addObject: null in all fields", SnapshotTest::newObjectHoldsNull);
        Check.sentence("addObject: NONE when there is no class c", SnapshotTest::noSuchClass);
        Check.sentence("addObject: NONE when size is not 1 .. 1000", SnapshotTest::noSuchSize);
        Check.sentence("addObject: NONE when twenty-four objects are there", SnapshotTest::twentyFourObjectsAreThere);
        Check.sentence("set: kind 0 null (value is not looked at)", SnapshotTest::setNull);
        Check.sentence("set: 1 the number value", SnapshotTest::setNumber);
        Check.sentence("set: 2 a link to the object value", SnapshotTest::setLink);
        Check.sentence("set: false when there is no such object", SnapshotTest::setNoSuchObject);
        Check.sentence("set: false when there is no such field", SnapshotTest::setNoSuchField);
        Check.sentence("set: false when kind is not 0 .. 2", SnapshotTest::setNoSuchKind);
        Check.sentence("set: false when kind is 2 and there is no object value", SnapshotTest::setNoSuchTarget);
        Check.sentence("setRoot: a root, or no root", SnapshotTest::setRootBothWays);
        Check.sentence("setRoot: true, also when it was so already", SnapshotTest::setRootAgain);
        Check.sentence("setRoot: false when there is no such object", SnapshotTest::setRootNoSuchObject);
    }

    private static void atMostEightClasses() {
        HeapQueries x = new HeapQueries();
        for (int c = 0; c < 8; c++) {
            Check.due("addClass(" + (c - 1) + ")", x.addClass(c - 1), c);
        }
        for (int parent = -2; parent <= 9; parent++) {
            Check.due("the ninth, addClass(" + parent + ")", x.addClass(parent), NONE);
        }
        for (int c = 0; c < 8; c++) {
            Check.due("addObject of class " + c, x.addObject(c, 1), c);
        }
        Check.due("addObject of a ninth class", x.addObject(8, 1), NONE);
    }

    private static void atMostTwentyFourObjects() {
        HeapQueries x = Heaps.ofOneClass(23);
        x.addClass(NONE);
        Check.due("the 24th", x.addObject(1, 1000), 23);
        for (int c = -1; c <= 2; c++) {
            Check.due("the 25th, of class " + c, x.addObject(c, 1), NONE);
        }
        Check.due("set of the 24th", x.set(23, 3, 2, 23), true);
        Check.due("setRoot of the 24th", x.setRoot(23, true), true);
        Check.due("retained by the 24th", x.retained(23), 1000);
        Check.due("dominator of the 25th", x.dominator(24), -2);
        Check.due("retained by the 25th", x.retained(24), NONE);
        Check.rows(x, "SELECT THIS FROM CLASS:1 END", 1, "@23");
    }

    private static void numberedAsMade() {
        HeapQueries x = new HeapQueries();
        Check.due("first addClass", x.addClass(NONE), 0);
        Check.due("refused addClass", x.addClass(5), NONE);
        Check.due("second addClass", x.addClass(0), 1);
        Check.due("first addObject", x.addObject(1, 4), 0);
        Check.due("refused addObject", x.addObject(1, 0), NONE);
        Check.due("second addObject", x.addObject(0, 3), 1);
        Check.due("third addObject", x.addObject(1, 2), 2);
        Check.due("third addClass", x.addClass(NONE), 2);
        Check.rows(x, "SELECT THIS AT:0 FROM CLASS:1 END", 2, "0", "2");
        Check.rows(x, "SELECT THIS AT:0 FROM CLASS:0 END", 1, "1");
    }

    private static void olderParent() {
        HeapQueries x = new HeapQueries();
        Check.due("itself, without any class", x.addClass(0), NONE);
        Check.due("the first", x.addClass(NONE), 0);
        Check.due("itself", x.addClass(1), NONE);
        Check.due("a younger one", x.addClass(2), NONE);
        Check.due("the only older one", x.addClass(0), 1);
        Check.due("the youngest of the older ones", x.addClass(1), 2);
        Check.due("the oldest of the older ones", x.addClass(0), 3);
    }

    private static void ancestors() {
        HeapQueries x = Heaps.full();
        for (int c = 0; c < 8; c++) {
            String text = "SELECT THIS AT:1 FROM INSTANCEOF:" + c + " WHERE THIS AT:0 LESS NUMBER:8 END";
            String[] want = new String[8 - c];
            for (int i = 0; i < want.length; i++) {
                want[i] = Integer.toString(c + i);
            }
            Check.rows(x, text, 3 * (8 - c), want);
        }
        HeapQueries siblings = new HeapQueries();
        siblings.addClass(NONE);
        siblings.addClass(0);
        siblings.addClass(0);
        siblings.addClass(NONE);
        for (int c = 0; c < 4; c++) {
            siblings.addObject(c, 1);
        }
        Check.rows(siblings, "SELECT THIS FROM INSTANCEOF:0 END", 3, "@0", "@1", "@2");
        for (int c = 1; c < 4; c++) {
            Check.rows(siblings, "SELECT THIS FROM INSTANCEOF:" + c + " END", 1, "@" + c);
        }
    }

    private static void sizes() {
        HeapQueries x = new HeapQueries();
        x.addClass(NONE);
        for (int wrong : new int[] {MIN, -1000, -1, 0, 1001, 1002, MAX}) {
            Check.due("addObject(0, " + wrong + ")", x.addObject(0, wrong), NONE);
        }
        int[] right = {1, 2, 999, 1000};
        for (int i = 0; i < right.length; i++) {
            Check.due("addObject(0, " + right[i] + ")", x.addObject(0, right[i]), i);
        }
        Check.rows(x, "SELECT THIS AT:2 FROM CLASS:0 END", 4, "1", "2", "999", "1000");
    }

    private static void fourFields() {
        HeapQueries x = Heaps.ofOneClass(3);
        for (int field = 0; field < 4; field++) {
            Check.due("set(1, " + field + ")", x.set(1, field, 1, field + 10), true);
        }
        for (int field : new int[] {-1, 4}) {
            Check.due("set(1, " + field + ")", x.set(1, field, 1, 99), false);
        }
        fields(x, 0, "n", "n", "n", "n");
        fields(x, 1, "10", "11", "12", "13");
        fields(x, 2, "n", "n", "n", "n");
    }

    /** Compares the four fields of an object, all objects being of class 0. */
    private static void fields(HeapQueries x, int object, String... want) {
        x.clear();
        String text = "SELECT THIS FIELD:0 FROM CLASS:0 UNION SELECT THIS FIELD:1 FROM CLASS:0"
                + " UNION SELECT THIS FIELD:2 FROM CLASS:0 UNION SELECT THIS FIELD:3 FROM CLASS:0 END";
        for (String token : text.split(" ")) {
            Check.due("fields: " + token, Check.give(x, token), true);
        }
        int objects = x.run() / 4;
        for (int field = 0; field < 4; field++) {
            String got = Check.row(x, field * objects + object);
            Check.due("object " + object + ", field " + field, got, want[field]);
        }
    }

    private static void anyInt() {
        HeapQueries x = Heaps.ofOneClass(2);
        int[] numbers = {MIN, -1, 0, MAX};
        for (int field = 0; field < 4; field++) {
            Check.due("set " + numbers[field], x.set(0, field, 1, numbers[field]), true);
        }
        fields(x, 0, "-2147483648", "-1", "0", "2147483647");
        fields(x, 1, "n", "n", "n", "n");
    }

    private static void links() {
        HeapQueries x = Heaps.ofOneClass(3);
        Check.due("to an older one", x.set(1, 0, 2, 0), true);
        Check.due("to itself", x.set(1, 1, 2, 1), true);
        Check.due("to a younger one", x.set(1, 2, 2, 2), true);
        fields(x, 1, "@0", "@1", "@2", "n");
    }

    private static void newWithoutClasses() {
        HeapQueries x = new HeapQueries();
        Check.due("addObject(0, 1)", x.addObject(0, 1), NONE);
        Check.write(x, "SELECT THIS FROM");
        Check.due("CLASS 0", Check.give(x, "CLASS:0"), false);
        Check.due("INSTANCEOF 0", Check.give(x, "INSTANCEOF:0"), false);
        Check.due("addClass(0)", x.addClass(0), NONE);
        Check.due("addClass(NONE)", x.addClass(NONE), 0);
    }

    private static void newWithoutObjects() {
        HeapQueries x = new HeapQueries();
        Check.due("dominator(0)", x.dominator(0), -2);
        Check.due("retained(0)", x.retained(0), NONE);
        Check.due("set(0, 0, 0, 0)", x.set(0, 0, 0, 0), false);
        Check.due("setRoot(0, true)", x.setRoot(0, true), false);
        x.addClass(NONE);
        Check.rows(x, "SELECT THIS FROM INSTANCEOF:0 END", 0);
        Check.due("addObject(0, 1)", x.addObject(0, 1), 0);
    }

    private static void newWithoutTokens() {
        HeapQueries x = new HeapQueries();
        Check.due("tokens()", x.tokens(), 0);
        Check.due("depth()", x.depth(), 0);
        Check.due("run()", x.run(), HeapQueries.INCOMPLETE);
        Check.due("SELECT", Check.give(x, "SELECT"), true);
    }

    private static void newWithoutRows() {
        HeapQueries x = new HeapQueries();
        Check.latest(x, "new", 0);
    }

    private static void newBesideAnother() {
        HeapQueries other = Heaps.family();
        Check.rows(other, "SELECT THIS FROM CLASS:1 END", 2, "@1", "@2");
        HeapQueries x = new HeapQueries();
        Check.due("tokens()", x.tokens(), 0);
        Check.due("addObject(0, 1)", x.addObject(0, 1), NONE);
        Check.due("retained(0)", x.retained(0), NONE);
        Check.latest(x, "new", 0);
        x.addClass(NONE);
        x.addObject(0, 9);
        x.setRoot(0, true);
        Check.rows(x, "SELECT THIS AT:3 FROM CLASS:0 END", 1, "9");
        Check.due("the other one's rows()", other.rows(), 2);
        Check.due("the other one's retained(0)", other.retained(0), 165);
    }

    private static void classWithoutParent() {
        HeapQueries x = new HeapQueries();
        for (int c = 0; c < 8; c++) {
            Check.due("addClass(NONE)", x.addClass(NONE), c);
            x.addObject(c, 1);
        }
        for (int c = 0; c < 8; c++) {
            Check.rows(x, "SELECT THIS FROM INSTANCEOF:" + c + " END", 1, "@" + c);
        }
    }

    private static void noSuchParent() {
        for (int classes = 0; classes < 8; classes++) {
            HeapQueries x = new HeapQueries();
            for (int c = 0; c < classes; c++) {
                x.addClass(NONE);
            }
            for (int wrong : new int[] {-2, -3, classes, classes + 1, 8, MIN, MAX}) {
                Check.due(classes + " classes: addClass(" + wrong + ")", x.addClass(wrong), NONE);
            }
            Check.due(classes + " classes: addClass(the youngest)", x.addClass(classes - 1), classes);
        }
    }

    private static void eightClassesAreThere() {
        HeapQueries x = new HeapQueries();
        for (int c = 0; c < 8; c++) {
            Check.due("with " + c + " classes: addClass(NONE)", x.addClass(NONE), c);
        }
        for (int parent = -1; parent < 8; parent++) {
            Check.due("with 8 classes: addClass(" + parent + ")", x.addClass(parent), NONE);
        }
        Check.write(x, "SELECT THIS FROM");
        Check.due("a ninth class", Check.give(x, "CLASS:8"), false);
        Check.due("the eighth class", Check.give(x, "CLASS:7"), true);
    }

    private static void newObjectIsNoRoot() {
        HeapQueries x = new HeapQueries();
        x.addClass(NONE);
        for (int object = 0; object < 24; object++) {
            x.addObject(0, 7);
            Check.due("retained(" + object + ") of a new one", x.retained(object), 0);
            x.setRoot(object, true);
            Check.due("retained(" + object + ") of a root", x.retained(object), 7);
        }
    }

    private static void newObjectHoldsNull() {
        HeapQueries x = Heaps.ofOneClass(24);
        fields(x, 0, "n", "n", "n", "n");
        fields(x, 1, "n", "n", "n", "n");
        fields(x, 23, "n", "n", "n", "n");
    }

    private static void noSuchClass() {
        for (int classes = 0; classes <= 8; classes++) {
            HeapQueries x = new HeapQueries();
            for (int c = 0; c < classes; c++) {
                x.addClass(c - 1);
            }
            for (int wrong : new int[] {-1, -2, classes, classes + 1, MIN, MAX}) {
                Check.due(classes + " classes: addObject(" + wrong + ", 1)", x.addObject(wrong, 1), NONE);
            }
            if (classes > 0) {
                Check.due(classes + " classes: of the youngest", x.addObject(classes - 1, 1), 0);
                Check.due(classes + " classes: of the oldest", x.addObject(0, 1), 1);
            }
        }
    }

    private static void noSuchSize() {
        HeapQueries x = Heaps.ofOneClass(23);
        for (int wrong : new int[] {MIN, -1, 0, 1001, MAX}) {
            Check.due("as the 24th: addObject(0, " + wrong + ")", x.addObject(0, wrong), NONE);
            Check.due("dominator(23)", x.dominator(23), -2);
        }
        Check.due("as the 24th: addObject(0, 1000)", x.addObject(0, 1000), 23);
        x.setRoot(23, true);
        Check.due("retained(23)", x.retained(23), 1000);
    }

    private static void twentyFourObjectsAreThere() {
        HeapQueries x = Heaps.full();
        for (int c = 0; c < 8; c++) {
            Check.due("addObject(" + c + ", 1)", x.addObject(c, 1), NONE);
            Check.due("addObject(" + c + ", 1000)", x.addObject(c, 1000), NONE);
        }
        Check.due("set(24, 0, 0, 0)", x.set(24, 0, 0, 0), false);
        Check.due("set(0, 0, 2, 24)", x.set(0, 0, 2, 24), false);
        Check.due("set(0, 0, 2, 23)", x.set(0, 0, 2, 23), true);
        Check.due("setRoot(24, true)", x.setRoot(24, true), false);
        Check.due("setRoot(23, true)", x.setRoot(23, true), true);
    }

    private static void setNull() {
        HeapQueries x = Heaps.ofOneClass(1);
        for (int value : new int[] {0, 1, -1, 24, MIN, MAX}) {
            x.set(0, 2, 1, 5);
            x.set(0, 3, 2, 0);
            Check.due("set(0, 2, 0, " + value + ")", x.set(0, 2, 0, value), true);
            Check.due("set(0, 3, 0, " + value + ")", x.set(0, 3, 0, value), true);
            fields(x, 0, "n", "n", "n", "n");
        }
    }

    private static void setNumber() {
        HeapQueries x = Heaps.ofOneClass(2);
        x.set(0, 1, 2, 1);
        Check.due("over null, as great as an object's number", x.set(0, 0, 1, 1), true);
        Check.due("over a link, no object's number", x.set(0, 1, 1, 2), true);
        Check.due("below 0", x.set(0, 2, 1, -1), true);
        fields(x, 0, "1", "2", "-1", "n");
    }

    private static void setLink() {
        HeapQueries x = Heaps.ofOneClass(2);
        x.set(1, 1, 1, 0);
        Check.due("over null", x.set(1, 0, 2, 0), true);
        Check.due("over a number", x.set(1, 1, 2, 1), true);
        Check.due("over a link", x.set(1, 0, 2, 1), true);
        fields(x, 1, "@1", "@1", "n", "n");
        Check.due("the only object to itself", Heaps.ofOneClass(1).set(0, 0, 2, 0), true);
    }

    /** Makes calls of set with one argument wrong, on three objects with a value in each field. */
    private static void refusedSets(int[]... calls) {
        HeapQueries x = Heaps.ofOneClass(3);
        for (int field = 0; field < 4; field++) {
            x.set(0, field, 1, field);
            x.set(1, field, 2, field % 3);
            x.set(2, field, 1, 20 + field);
        }
        for (int[] a : calls) {
            String call = "set(" + a[0] + ", " + a[1] + ", " + a[2] + ", " + a[3] + ")";
            Check.due(call, x.set(a[0], a[1], a[2], a[3]), false);
        }
        fields(x, 0, "0", "1", "2", "3");
        fields(x, 1, "@0", "@1", "@2", "@0");
        fields(x, 2, "20", "21", "22", "23");
    }

    private static void setNoSuchObject() {
        for (int object : new int[] {-1, -2, 3, 4, 23, 24, 1 << 30, MIN, MAX}) {
            refusedSets(new int[] {object, 0, 0, 0}, new int[] {object, 1, 1, 9}, new int[] {object, 2, 2, 0},
                    new int[] {object, 3, 2, 2});
        }
    }

    private static void setNoSuchField() {
        for (int field : new int[] {-1, -4, 4, 5, 8, 1 << 30, MIN, MAX}) {
            refusedSets(new int[] {0, field, 0, 0}, new int[] {1, field, 1, 9}, new int[] {2, field, 2, 0});
        }
    }

    private static void setNoSuchKind() {
        for (int kind : new int[] {-1, -2, 3, 4, MIN, MAX}) {
            refusedSets(new int[] {0, 0, kind, 0}, new int[] {1, 1, kind, 1}, new int[] {2, 3, kind, 2});
        }
    }

    private static void setNoSuchTarget() {
        for (int target : new int[] {-1, -2, 3, 4, 24, 32, MIN, MAX}) {
            refusedSets(new int[] {0, 0, 2, target}, new int[] {1, 1, 2, target}, new int[] {2, 3, 2, target});
        }
    }

    private static void setRootBothWays() {
        HeapQueries x = Heaps.ofOneClass(3);
        Check.due("setRoot(2, true)", x.setRoot(2, true), true);
        Check.due("retained(2), a root", x.retained(2), 3);
        Check.due("setRoot(0, true)", x.setRoot(0, true), true);
        Check.due("setRoot(2, false)", x.setRoot(2, false), true);
        Check.due("retained(2), no root any more", x.retained(2), 0);
        Check.due("retained(0), still a root", x.retained(0), 1);
        Check.due("retained(1), never a root", x.retained(1), 0);
    }

    private static void setRootAgain() {
        HeapQueries x = Heaps.ofOneClass(2);
        Check.due("no root: setRoot(0, false)", x.setRoot(0, false), true);
        Check.due("no root: retained(0)", x.retained(0), 0);
        for (int times = 1; times <= 3; times++) {
            Check.due("setRoot(0, true), time " + times, x.setRoot(0, true), true);
            Check.due("retained(0), time " + times, x.retained(0), 1);
        }
        for (int times = 1; times <= 3; times++) {
            Check.due("setRoot(0, false), time " + times, x.setRoot(0, false), true);
            Check.due("retained(0), time " + times, x.retained(0), 0);
        }
    }

    private static void setRootNoSuchObject() {
        HeapQueries x = Heaps.ofOneClass(2);
        x.setRoot(0, true);
        for (int wrong : new int[] {-1, -2, 2, 3, 24, 32, 33, MIN, MAX}) {
            Check.due("setRoot(" + wrong + ", true)", x.setRoot(wrong, true), false);
            Check.due("setRoot(" + wrong + ", false)", x.setRoot(wrong, false), false);
        }
        Check.due("retained(0), still a root", x.retained(0), 1);
        Check.due("retained(1), still no root", x.retained(1), 0);
        x.addObject(0, 5);
        Check.due("retained(2), made after that", x.retained(2), 0);
    }
}
