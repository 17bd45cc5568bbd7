/** What is reachable, retained and dominated, and promises 6 and 7: dominator, retained. */
public final class DominatorTest {
    private static final int NONE = HeapQueries.NONE;

    public static void main(String[] args) {
        terms();
        promises();
        Check.end();
    }

    private static void terms() {
        Check.sentence("REACHABLE if it is a root", DominatorTest::rootIsReachable);
        Check.sentence("or if a field of a reachable object holds a link to it", DominatorTest::linkedIsReachable);
        Check.sentence("a field of a reachable object, not of another", DominatorTest::unreachableCycles);
        Check.sentence("a link to it, not a number", DominatorTest::numberIsNoLink);
        Check.sentence("reachable over as many links as there can be", DominatorTest::longestChains);
        Check.sentence("if the objects of X, with all their fields, were taken away", DominatorTest::takenAway);
        Check.sentence("(so the reachable objects of X are in it)", DominatorTest::reachableOnesOfX);
        Check.sentence("RETAINED by a set X of objects, not by each of them", DominatorTest::retainedBySeveral);
        Check.sentence("The RETAINED SIZE is the sum of the sizes", DominatorTest::retainedSizes);
        Check.sentence("0 if it is not reachable", DominatorTest::retainedSizeOfUnreachable);
        Check.sentence("d DOMINATES another object", DominatorTest::notItself);
        Check.sentence("which is itself dominated by all the others", DominatorTest::nearestDominator);
        Check.sentence("when no object dominates o there is none", DominatorTest::nothingDominates);
        Check.sentence("(so also when o is not reachable)", DominatorTest::unreachableHasNone);
    }

    private static void promises() {
        Check.sentence("dominator: NONE when there is none", DominatorTest::dominatorNone);
        Check.sentence("dominator: -2 when there is no such object", DominatorTest::dominatorNoSuchObject);
        Check.sentence("retained: NONE when there is no such object", DominatorTest::retainedNoSuchObject);
        Check.sentence("dominator and retained after each change", DominatorTest::afterEachChange);
    }

    private static void node(HeapQueries x, String when, int object, int dominator, int retained) {
        Check.due(when + ": dominator(" + object + ")", x.dominator(object), dominator);
        Check.due(when + ": retained(" + object + ")", x.retained(object), retained);
    }

    private static void rootIsReachable() {
        for (int root = 0; root < 24; root++) {
            HeapQueries x = Heaps.ofOneClass(24);
            x.setRoot(root, true);
            for (int object = 0; object < 24; object++) {
                node(x, "root " + root, object, NONE, object == root ? object + 1 : 0);
            }
        }
    }

    private static void linkedIsReachable() {
        for (int field = 0; field < 4; field++) {
            HeapQueries x = Heaps.ofOneClass(4);
            x.setRoot(2, true);
            x.set(2, field, 2, 0);
            x.set(0, 3 - field, 2, 3);
            node(x, "over field " + field, 2, NONE, 8);
            node(x, "over field " + field, 0, 2, 5);
            node(x, "over field " + field, 3, 0, 4);
            node(x, "over field " + field, 1, NONE, 0);
        }
    }

    private static void unreachableCycles() {
        HeapQueries x = Heaps.ofOneClass(4);
        x.set(0, 0, 2, 0);
        x.set(1, 0, 2, 2);
        x.set(2, 0, 2, 1);
        x.setRoot(3, true);
        node(x, "a link to itself alone", 0, NONE, 0);
        node(x, "a cycle without a root", 1, NONE, 0);
        node(x, "a cycle without a root", 2, NONE, 0);
        x.set(3, 0, 2, 2);
        node(x, "a cycle linked from a root", 3, NONE, 9);
        node(x, "a cycle linked from a root", 2, 3, 5);
        node(x, "a cycle linked from a root", 1, 2, 2);
        x.set(1, 3, 2, 3);
        node(x, "a cycle through the root", 3, NONE, 9);
        node(x, "a cycle through the root", 1, 2, 2);
    }

    private static void numberIsNoLink() {
        HeapQueries x = Heaps.ofOneClass(3);
        x.setRoot(0, true);
        x.set(0, 0, 1, 1);
        x.set(0, 1, 1, 2);
        node(x, "numbers alone", 0, NONE, 1);
        node(x, "numbers alone", 1, NONE, 0);
        node(x, "numbers alone", 2, NONE, 0);
        x.set(0, 0, 2, 1);
        node(x, "a link", 1, 0, 2);
        x.set(0, 0, 0, 1);
        node(x, "null again", 1, NONE, 0);
    }

    private static void longestChains() {
        HeapQueries down = Heaps.ofOneClass(24);
        HeapQueries up = Heaps.ofOneClass(24);
        for (int object = 1; object < 24; object++) {
            down.set(object, object % 4, 2, object - 1);
            up.set(object - 1, object % 4, 2, object);
        }
        down.setRoot(23, true);
        up.setRoot(0, true);
        for (int object = 0; object < 24; object++) {
            int below = (object + 1) * (object + 2) / 2;
            node(down, "to lower numbers", object, object == 23 ? NONE : object + 1, below);
            node(up, "to higher numbers", object, object - 1, 300 - below + object + 1);
        }
    }

    private static void takenAway() {
        HeapQueries x = Heaps.ofOneClass(5);
        x.setRoot(0, true);
        x.setRoot(1, true);
        x.set(0, 0, 2, 2);
        x.set(0, 3, 2, 3);
        x.set(1, 1, 2, 3);
        x.set(1, 2, 2, 4);
        node(x, "a root is taken away too", 0, NONE, 4);
        node(x, "a root is taken away too", 1, NONE, 7);
        node(x, "linked from two roots", 3, NONE, 4);
        node(x, "linked from one root", 2, 0, 3);
        node(x, "linked from one root", 4, 1, 5);
    }

    private static void reachableOnesOfX() {
        HeapQueries x = Heaps.ofOneClass(4);
        x.setRoot(1, true);
        x.set(1, 0, 2, 2);
        x.set(3, 0, 2, 0);
        Check.rows(x, "SELECT RETAINED THIS FROM CLASS:0 END", 4, "@1", "@2");
        Check.rows(x, "SELECT RETAINED THIS FROM CLASS:0 WHERE THIS AT:0 EQ NUMBER:3 END", 4);
        Check.rows(x, "SELECT RETAINED THIS FROM CLASS:0 WHERE THIS AT:0 EQ NUMBER:2 END", 4, "@2");
    }

    private static void retainedBySeveral() {
        HeapQueries x = Heaps.ofOneClass(5);
        x.setRoot(4, true);
        x.set(4, 0, 2, 3);
        x.set(4, 1, 2, 2);
        x.set(3, 0, 2, 1);
        x.set(2, 0, 2, 1);
        x.set(1, 0, 2, 0);
        String of = "SELECT RETAINED THIS FROM CLASS:0 WHERE THIS AT:0 EQ NUMBER:";
        Check.rows(x, of + "3 END", 5, "@3");
        Check.rows(x, of + "2 END", 5, "@2");
        Check.rows(x, of + "3 OR THIS AT:0 EQ NUMBER:2 END", 5, "@0", "@1", "@2", "@3");
        Check.rows(x, "SELECT RETAINED NULL FROM CLASS:0 END", 5);
    }

    private static void retainedSizes() {
        HeapQueries x = new HeapQueries();
        x.addClass(NONE);
        for (int object = 0; object < 24; object++) {
            x.addObject(0, 1000);
            x.set(object, 0, 2, Math.max(0, object - 1));
        }
        x.setRoot(23, true);
        for (int object = 0; object < 24; object++) {
            Check.due("retained(" + object + ")", x.retained(object), 1000 * (object + 1));
        }
        HeapQueries diamond = diamond();
        node(diamond, "each object counts once", 0, NONE, 15);
        node(diamond, "each object counts once", 3, 0, 9);
    }

    /** 0, a root, links to 1 and 2, both of them to 3, 3 to 4; 5 is not reachable and links to 4. */
    private static HeapQueries diamond() {
        HeapQueries x = Heaps.ofOneClass(6);
        x.setRoot(0, true);
        x.set(0, 0, 2, 1);
        x.set(0, 1, 2, 2);
        x.set(1, 0, 2, 3);
        x.set(2, 0, 2, 3);
        x.set(3, 0, 2, 4);
        x.set(5, 0, 2, 4);
        return x;
    }

    private static void retainedSizeOfUnreachable() {
        HeapQueries x = diamond();
        Check.due("retained(5), which links to another", x.retained(5), 0);
        Check.rows(x, "SELECT THIS AT:3 FROM CLASS:0 WHERE THIS AT:0 EQ NUMBER:5 END", 6, "0");
        x.set(5, 1, 2, 5);
        Check.due("retained(5), which links to itself", x.retained(5), 0);
        x.setRoot(0, false);
        for (int object = 0; object < 6; object++) {
            Check.due("without a root: retained(" + object + ")", x.retained(object), 0);
        }
    }

    private static void notItself() {
        HeapQueries x = Heaps.ofOneClass(2);
        x.setRoot(1, true);
        node(x, "a root alone", 1, NONE, 2);
        x.set(1, 0, 2, 1);
        node(x, "a root that links to itself", 1, NONE, 2);
        x.set(1, 1, 2, 0);
        x.set(0, 0, 2, 0);
        node(x, "an object that links to itself", 0, 1, 1);
    }

    private static void nearestDominator() {
        HeapQueries x = diamond();
        node(x, "dominated by 0 and 3", 4, 3, 5);
        node(x, "dominated by 0 alone", 3, 0, 9);
        x.set(2, 0, 0, 0);
        node(x, "dominated by 0 and 1", 3, 1, 9);
        node(x, "dominated by 0, 1 and 3", 4, 3, 5);
        HeapQueries y = Heaps.ofOneClass(4);
        y.setRoot(2, true);
        y.set(2, 0, 2, 0);
        y.set(0, 0, 2, 3);
        y.set(3, 0, 2, 1);
        node(y, "dominated by 2, 0 and 3", 1, 3, 2);
        y.set(0, 1, 2, 1);
        node(y, "dominated by 2 and 0", 1, 0, 2);
        y.set(2, 1, 2, 1);
        node(y, "dominated by 2", 1, 2, 2);
    }

    private static void nothingDominates() {
        HeapQueries x = Heaps.ofOneClass(4);
        x.setRoot(0, true);
        x.setRoot(1, true);
        x.set(0, 0, 2, 2);
        x.set(1, 0, 2, 2);
        x.set(2, 0, 2, 3);
        node(x, "linked from two roots", 2, NONE, 7);
        node(x, "below that", 3, 2, 4);
        x.set(0, 1, 2, 1);
        node(x, "a root that is linked to", 1, NONE, 2);
        x.setRoot(1, false);
        node(x, "no root any more", 1, 0, 2);
        node(x, "linked from one root and what it links to", 2, 0, 7);
    }

    private static void unreachableHasNone() {
        HeapQueries x = Heaps.ofOneClass(3);
        x.set(0, 0, 2, 1);
        x.set(1, 0, 2, 2);
        for (int object = 0; object < 3; object++) {
            node(x, "a chain without a root", object, NONE, 0);
        }
        Check.rows(x, "SELECT THIS AT:4 FROM CLASS:0 END", 3, "n", "n", "n");
        x.setRoot(1, true);
        node(x, "linked to from where no root leads", 1, NONE, 5);
        node(x, "reachable now", 2, 1, 3);
    }

    private static void dominatorNone() {
        HeapQueries x = Heaps.family();
        Check.due("a root", x.dominator(0), NONE);
        Check.due("not reachable", x.dominator(5), NONE);
        Check.due("dominated by object 0", x.dominator(1), 0);
        Check.due("an object without links, no root", Heaps.ofOneClass(1).dominator(0), NONE);
    }

    private static void dominatorNoSuchObject() {
        for (int objects : new int[] {0, 1, 23, 24}) {
            HeapQueries x = Heaps.ofOneClass(objects);
            for (int wrong : new int[] {-1, -2, objects, objects + 1, 32, Check.MAX, Check.MIN}) {
                Check.due(objects + " objects: dominator(" + wrong + ")", x.dominator(wrong), -2);
            }
            if (objects > 0) {
                Check.due(objects + " objects: dominator of the last", x.dominator(objects - 1), NONE);
            }
        }
    }

    private static void retainedNoSuchObject() {
        for (int objects : new int[] {0, 1, 23, 24}) {
            HeapQueries x = Heaps.ofOneClass(objects);
            for (int wrong : new int[] {-1, -2, objects, objects + 1, 32, Check.MAX, Check.MIN}) {
                Check.due(objects + " objects: retained(" + wrong + ")", x.retained(wrong), NONE);
            }
            if (objects > 0) {
                Check.due(objects + " objects: retained by the last", x.retained(objects - 1), 0);
            }
        }
    }

    private static void afterEachChange() {
        HeapQueries x = Heaps.ofOneClass(2);
        node(x, "new", 1, NONE, 0);
        x.setRoot(0, true);
        node(x, "after setRoot", 0, NONE, 1);
        x.set(0, 0, 2, 1);
        node(x, "after set", 1, 0, 2);
        x.addObject(0, 10);
        node(x, "after addObject", 2, NONE, 0);
        x.set(1, 0, 2, 2);
        node(x, "after set", 2, 1, 10);
        x.set(0, 1, 2, 2);
        node(x, "after set of another field", 2, 0, 10);
        x.set(0, 1, 1, 2);
        node(x, "after a number in its place", 2, 1, 10);
        x.set(1, 0, 0, 0);
        node(x, "after null in its place", 2, NONE, 0);
        x.setRoot(0, false);
        node(x, "without a root", 0, NONE, 0);
    }
}
