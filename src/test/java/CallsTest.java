/** 'An object is used for at most 512 calls after it has been made': up to the last of them, all answers are as due. */
public final class CallsTest {
    private static final int CALLS = 512;

    public static void main(String[] args) {
        Check.sentence("512 calls: run of a query with all rows", CallsTest::manyRuns);
        Check.sentence("512 calls: texts of 40 tokens", CallsTest::manyTexts);
        Check.sentence("512 calls: whole texts that are run", CallsTest::manyWholeTexts);
        Check.sentence("512 calls: changes of the snapshot", CallsTest::manyChanges);
        Check.sentence("512 calls: refused ones", CallsTest::manyRefusals);
        Check.end();
    }

    private static void manyRuns() {
        HeapQueries x = Heaps.ring();
        // The class, the objects, the links, the root, then clear(), the tokens and tokens().
        int calls = 1 + 24 + 24 + 1 + 42;
        Check.write(x, "SELECT THIS FROM CLASS:0 UNION ".repeat(7) + "SELECT THIS FROM CLASS:0 END");
        for (; calls < CALLS - 2; calls++) {
            Check.due("call " + calls + ", run()", x.run(), 192);
        }
        Check.due("looked()", x.looked(), 192);
        Check.due("call 512, value(191)", x.value(191), 23);
    }

    private static void manyTexts() {
        HeapQueries x = Heaps.ofOneClass(1);
        int calls = 2;
        int taken = 0;
        for (; calls < CALLS - 1; calls++) {
            if (taken == 40) {
                x.clear();
                taken = 0;
            } else {
                Check.due("call " + calls, Check.give(x, taken == 0 ? "SELECT" : "OPEN"), true);
                taken++;
            }
        }
        Check.due("call 512, tokens()", x.tokens(), taken);
    }

    private static void manyWholeTexts() {
        HeapQueries x = Heaps.ofOneClass(2);
        String[] tokens = "SELECT THIS PLUS NULL AND THIS FROM CLASS:0 WHERE NOT THIS AT:0 END".split(" ");
        int calls = 3;
        for (; calls + tokens.length + 3 <= CALLS; calls += tokens.length + 3) {
            x.clear();
            for (String token : tokens) {
                Check.due("call after " + calls + ", " + token, Check.give(x, token), true);
            }
            Check.due("call after " + calls + ", run()", x.run(), HeapQueries.TYPE);
            Check.due("call after " + calls + ", looked()", x.looked(), 1);
        }
        for (; calls < CALLS; calls++) {
            Check.due("call " + (calls + 1) + ", run()", x.run(), HeapQueries.TYPE);
        }
    }

    private static void manyChanges() {
        HeapQueries x = Heaps.ofOneClass(3);
        x.setRoot(0, true);
        int calls = 5;
        for (; calls + 4 <= CALLS; calls += 4) {
            boolean linked = calls % 8 < 4;
            Check.due("set", x.set(0, 0, linked ? 2 : 0, 2), true);
            Check.due("setRoot", x.setRoot(1, linked), true);
            Check.due("dominator after " + calls, x.dominator(2), linked ? 0 : HeapQueries.NONE);
            Check.due("retained after " + calls, x.retained(0), linked ? 4 : 1);
        }
        for (; calls < CALLS; calls++) {
            Check.due("call " + (calls + 1) + ", set", x.set(0, 0, 1, calls), true);
        }
    }

    private static void manyRefusals() {
        HeapQueries x = Heaps.ofOneClass(1);
        x.setRoot(0, true);
        int calls = 3;
        for (; calls + 6 <= CALLS - 9; calls += 6) {
            Check.due("addClass", x.addClass(9), HeapQueries.NONE);
            Check.due("addObject", x.addObject(0, 0), HeapQueries.NONE);
            Check.due("set", x.set(0, 0, 2, 1), false);
            Check.due("setRoot", x.setRoot(1, true), false);
            Check.due("token", x.token(24, 0), false);
            Check.due("run", x.run(), HeapQueries.INCOMPLETE);
        }
        for (; calls < CALLS - 9; calls++) {
            Check.due("token", x.token(25, 0), false);
        }
        Check.due("addClass", x.addClass(0), 1);
        Check.due("addObject", x.addObject(1, 8), 1);
        Check.due("set", x.set(0, 0, 2, 1), true);
        Check.due("retained", x.retained(0), 9);
        for (String token : "SELECT THIS FROM".split(" ")) {
            Check.due(token, Check.give(x, token), true);
        }
        Check.due("CLASS 1", Check.give(x, "CLASS:1"), true);
        Check.due("call 512, tokens", x.tokens(), 4);
    }
}
