/** Snapshots that several tests look at. */
final class Heaps {
    private Heaps() {
    }

    /** One class, 0, and that many objects of it; the size of each is its number and one more. */
    static HeapQueries ofOneClass(int objects) {
        HeapQueries x = new HeapQueries();
        x.addClass(HeapQueries.NONE);
        for (int object = 0; object < objects; object++) {
            x.addObject(0, object + 1);
        }
        return x;
    }

    /**
     * Classes 0 <- 1 <- 2 and 3. Objects 0 (class 0, size 10, root), 1 (class 1, 20), 2 (class 1, 30),
     * 3 (class 2, 5), 4 (class 3, 100), 5 (class 3, 7). Links 0 -> 1, 2; 1 -> 3; 2 -> 3; 3 -> 4; 4 -> 3; 5 -> 4.
     * Field 3 of the objects 1 and 2 holds 8, field 1 of object 3 holds -17.
     */
    static HeapQueries family() {
        HeapQueries x = new HeapQueries();
        x.addClass(-1);
        x.addClass(0);
        x.addClass(1);
        x.addClass(-1);
        int[][] objects = {{0, 10}, {1, 20}, {1, 30}, {2, 5}, {3, 100}, {3, 7}};
        for (int[] o : objects) {
            x.addObject(o[0], o[1]);
        }
        int[][] links = {{0, 0, 1}, {0, 1, 2}, {1, 0, 3}, {2, 0, 3}, {3, 0, 4}, {4, 2, 3}, {5, 0, 4}};
        for (int[] l : links) {
            x.set(l[0], l[1], 2, l[2]);
        }
        x.set(3, 1, 1, -17);
        x.set(1, 3, 1, 8);
        x.set(2, 3, 1, 8);
        x.setRoot(0, true);
        return x;
    }

    /** Objects 0 .. 23 of class 0, each with a link to the next one in field 0, the last with one to 0, a root. */
    static HeapQueries ring() {
        HeapQueries x = ofOneClass(24);
        for (int object = 0; object < 24; object++) {
            x.set(object, 0, 2, (object + 1) % 24);
        }
        x.setRoot(0, true);
        return x;
    }

    /** All the classes and objects that there can be: class c below class c - 1, object o of class o % 8. */
    static HeapQueries full() {
        HeapQueries x = new HeapQueries();
        for (int c = 0; c < 8; c++) {
            x.addClass(c - 1);
        }
        for (int object = 0; object < 24; object++) {
            x.addObject(object % 8, 1000 - object);
        }
        return x;
    }
}
