/** Promises 6 and 7: dominator, retained. */
public final class DominatorTest {
    private static final int NONE = HeapQueries.NONE;

    public static void main(String[] args) {
        chain();
        diamond();
        twoRoots();
        linkedRoot();
        cycles();
        largest();
        wrongObjects();
        Check.end();
    }

    private static HeapQueries heap(int objects) {
        HeapQueries x = new HeapQueries();
        x.addClass(NONE);
        for (int object = 0; object < objects; object++) {
            x.addObject(0, object + 1);
        }
        return x;
    }

    private static void node(HeapQueries x, String when, int object, int dominator, int retained) {
        Check.due(when + ": dominator(" + object + ")", x.dominator(object), dominator);
        Check.due(when + ": retained(" + object + ")", x.retained(object), retained);
    }

    private static void chain() {
        HeapQueries x = heap(4);
        x.set(2, 3, 2, 0);
        x.set(0, 1, 2, 3);
        node(x, "chain without root", 2, NONE, 0);
        node(x, "chain without root", 3, NONE, 0);
        x.setRoot(2, true);
        node(x, "chain", 2, NONE, 8);
        node(x, "chain", 0, 2, 5);
        node(x, "chain", 3, 0, 4);
        node(x, "chain", 1, NONE, 0);
        x.set(0, 1, 0, 0);
        node(x, "cut chain", 0, 2, 1);
        node(x, "cut chain", 3, NONE, 0);
        x.set(0, 1, 1, 3);
        node(x, "a number is no link", 3, NONE, 0);
    }

    private static void diamond() {
        HeapQueries x = heap(6);
        x.setRoot(0, true);
        x.set(0, 0, 2, 1);
        x.set(0, 1, 2, 2);
        x.set(1, 0, 2, 3);
        x.set(2, 0, 2, 3);
        x.set(3, 0, 2, 4);
        node(x, "diamond", 3, 0, 9);
        node(x, "diamond", 4, 3, 5);
        node(x, "diamond", 0, NONE, 15);
        node(x, "diamond", 1, 0, 2);
        x.set(5, 0, 2, 4);
        node(x, "an unreachable link does not matter", 4, 3, 5);
        x.set(2, 0, 0, 0);
        node(x, "diamond cut", 3, 1, 9);
        node(x, "diamond cut", 1, 0, 11);
    }

    private static void twoRoots() {
        HeapQueries x = heap(4);
        x.setRoot(0, true);
        x.setRoot(1, true);
        x.set(0, 0, 2, 2);
        x.set(1, 0, 2, 2);
        x.set(2, 0, 2, 3);
        node(x, "two roots", 2, NONE, 7);
        node(x, "two roots", 3, 2, 4);
        node(x, "two roots", 0, NONE, 1);
        x.setRoot(1, false);
        node(x, "one root left", 2, 0, 7);
        node(x, "one root left", 0, NONE, 8);
        node(x, "one root left", 1, NONE, 0);
    }

    private static void linkedRoot() {
        HeapQueries x = heap(3);
        x.setRoot(0, true);
        x.setRoot(1, true);
        x.set(0, 0, 2, 1);
        x.set(1, 0, 2, 2);
        node(x, "a root has no dominator", 1, NONE, 5);
        node(x, "a root has no dominator", 0, NONE, 1);
        x.setRoot(1, false);
        node(x, "once a root", 1, 0, 5);
        node(x, "once a root", 0, NONE, 6);
    }

    private static void cycles() {
        HeapQueries x = heap(4);
        x.set(0, 0, 2, 0);
        x.set(1, 0, 2, 2);
        x.set(2, 0, 2, 1);
        node(x, "an unreachable cycle", 0, NONE, 0);
        node(x, "an unreachable cycle", 1, NONE, 0);
        x.setRoot(0, true);
        node(x, "a link to itself", 0, NONE, 1);
        x.set(0, 1, 2, 2);
        node(x, "a cycle", 2, 0, 5);
        node(x, "a cycle", 1, 2, 2);
        x.set(1, 3, 2, 0);
        node(x, "a cycle through the root", 0, NONE, 6);
        node(x, "a cycle through the root", 1, 2, 2);
        x.set(3, 0, 2, 3);
        node(x, "an object linked by itself alone", 3, NONE, 0);
    }

    private static void largest() {
        HeapQueries x = new HeapQueries();
        x.addClass(NONE);
        for (int object = 0; object < 24; object++) {
            x.addObject(0, 1000);
        }
        for (int object = 1; object < 24; object++) {
            x.set(object, object % 4, 2, object - 1);
        }
        x.setRoot(23, true);
        for (int object = 0; object < 24; object++) {
            node(x, "the longest chain", object, object == 23 ? NONE : object + 1, 1000 * (object + 1));
        }
    }

    private static void wrongObjects() {
        HeapQueries x = heap(2);
        for (int wrong : new int[] {-1, -2, 2, 24, 32, Integer.MAX_VALUE, Integer.MIN_VALUE}) {
            Check.due("dominator(" + wrong + ")", x.dominator(wrong), -2);
            Check.due("retained(" + wrong + ")", x.retained(wrong), NONE);
        }
    }
}
