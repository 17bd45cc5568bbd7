import java.util.stream.IntStream;

/** Promises 12 to 16: run, rows, kind, value, looked. */
public final class RunTest {
    private static final int INCOMPLETE = HeapQueries.INCOMPLETE;
    private static final int NONE = HeapQueries.NONE;
    private static final int PATH = HeapQueries.PATH;
    private static final int TYPE = HeapQueries.TYPE;
    private static final int OBJECTS = HeapQueries.OBJECTS;

    private static final int[] NO_INDEX = {-1, -2, 24, 192, 193, Check.MIN, Check.MAX};

    public static void main(String[] args) {
        run();
        rows();
        looked();
        Check.end();
    }

    private static void run() {
        Check.sentence("run: INCOMPLETE when the tokens do not end with END", RunTest::incomplete);
        Check.sentence("run: INCOMPLETE, changing nothing", RunTest::incompleteChangesNothing);
        Check.sentence("run: over the snapshot as it is now", RunTest::snapshotAsItIsNow);
        Check.sentence("run: the tokens stay, so that it can be run again", RunTest::runAgain);
        Check.sentence("run: the rows are its rows, and the answer is how many they are", RunTest::howMany);
        Check.sentence("run: no rows", RunTest::noRows);
        Check.sentence("run: as many rows as there can be", RunTest::mostRows);
        Check.sentence("run: with an error there are no rows", RunTest::noRowsWithError);
        Check.sentence("run: the answer is PATH, TYPE or OBJECTS", RunTest::errors);
    }

    private static void rows() {
        Check.sentence("rows: those of the latest run that was not INCOMPLETE", RunTest::rowsOfLatest);
        Check.sentence("rows: 0 when there was none", RunTest::rowsWithoutRun);
        Check.sentence("rows: 0 when it ended with an error", RunTest::rowsAfterError);
        Check.sentence("kind: 0 null, 1 a number, 2 a link", RunTest::kinds);
        Check.sentence("kind: NONE when there is no such row", RunTest::kindOfNoRow);
        Check.sentence("value: the number", RunTest::valueOfNumber);
        Check.sentence("value: the number of the object that it links to", RunTest::valueOfLink);
        Check.sentence("value: 0 when it is null", RunTest::valueOfNull);
        Check.sentence("value: 0 when there is no such row", RunTest::valueOfNoRow);
    }

    private static void looked() {
        Check.sentence("looked: in the latest run that was not INCOMPLETE", RunTest::lookedInLatest);
        Check.sentence("looked: in all of its selects", RunTest::lookedInAllSelects);
        Check.sentence("looked: up to its error, if there was one", RunTest::lookedUpToError);
        Check.sentence("looked: how many times an object was looked at", RunTest::lookedSeveralTimes);
        Check.sentence("looked: 0 when there was none", RunTest::lookedWithoutRun);
    }

    /** A snapshot with the rows of a run, and another text without its END. */
    private static HeapQueries withRows() {
        HeapQueries x = Heaps.family();
        Check.rows(x, "SELECT THIS FIELD:3 FROM INSTANCEOF:1 END", 3, "8", "8", "n");
        Check.write(x, "SELECT NUMBER:1 FIELD:0 FROM CLASS:3");
        return x;
    }

    private static void incomplete() {
        HeapQueries x = Heaps.family();
        Check.due("without tokens: run()", x.run(), INCOMPLETE);
        String text = "SELECT OPEN THIS CLOSE FROM OPEN SELECT THIS FROM CLASS:1 CLOSE WHERE NOT NULL";
        for (String token : text.split(" ")) {
            Check.due("token " + token, Check.give(x, token), true);
            Check.due("behind " + token + ": run()", x.run(), INCOMPLETE);
            Check.due("a refused token", x.token(25, 0), false);
            Check.due("behind a refused token: run()", x.run(), INCOMPLETE);
        }
        Check.due("END", Check.give(x, "END"), true);
        Check.due("behind END: run()", x.run(), 2);
        x.clear();
        Check.due("after clear(): run()", x.run(), INCOMPLETE);
        Check.write(x, "SELECT" + " NOT".repeat(36) + " NULL FROM CLASS:0");
        Check.due("END as the 41st", Check.give(x, "END"), false);
        Check.due("40 tokens without END: run()", x.run(), INCOMPLETE);
    }

    private static void incompleteChangesNothing() {
        HeapQueries x = withRows();
        for (int times = 0; times < 3; times++) {
            Check.due("run()", x.run(), INCOMPLETE);
            Check.due("tokens()", x.tokens(), 5);
            Check.latest(x, "after INCOMPLETE", 3, "8", "8", "n");
        }
        Check.due("END", Check.give(x, "END"), true);
        Check.latest(x, "whole, but not run", 3, "8", "8", "n");
        Check.due("run()", x.run(), PATH);
        Check.latest(x, "after PATH", 1);
        x.clear();
        Check.due("run()", x.run(), INCOMPLETE);
        Check.latest(x, "after PATH and INCOMPLETE", 1);
    }

    private static void snapshotAsItIsNow() {
        HeapQueries x = Heaps.family();
        String text = "SELECT THIS AT:4 FROM INSTANCEOF:2 UNION SELECT THIS AT:3 FROM INSTANCEOF:2 END";
        Check.rows(x, text, 2, "@0", "105");
        x.set(2, 0, 0, 0);
        Check.latest(x, "the rows stay until the next run", 2, "@0", "105");
        Check.again(x, text, 2, "@1", "105");
        x.addObject(2, 9);
        Check.again(x, text, 4, "@1", "n", "105", "0");
        x.setRoot(6, true);
        Check.again(x, text, 4, "@1", "n", "105", "9");
        x.setRoot(0, false);
        Check.again(x, text, 4, "n", "n", "0", "9");
        x.set(6, 0, 2, 3);
        Check.again(x, text, 4, "@6", "n", "105", "114");
        Check.due("refused", x.set(6, 0, 2, 7), false);
        Check.again(x, text, 4, "@6", "n", "105", "114");
        x.addClass(2);
        x.addObject(4, 1);
        Check.again(x, text, 6, "@6", "n", "n", "105", "114", "0");
    }

    private static void runAgain() {
        HeapQueries x = Heaps.family();
        String text = "SELECT OPEN THIS CLOSE FIELD:0 FROM INSTANCEOF:0 END";
        Check.write(x, text);
        for (int times = 0; times < 5; times++) {
            Check.again(x, text, 4, "@1", "@3", "@3", "@4");
            Check.due("tokens()", x.tokens(), 8);
            Check.due("depth()", x.depth(), 0);
            Check.due("a token behind END", Check.give(x, "SELECT"), false);
        }
        Check.write(x, "SELECT NOT THIS FROM INSTANCEOF:0 END");
        for (int times = 0; times < 5; times++) {
            Check.due("run() with an error", x.run(), TYPE);
            Check.due("tokens() after an error", x.tokens(), 6);
        }
    }

    private static void howMany() {
        HeapQueries x = Heaps.family();
        Check.rows(x, "SELECT THIS FROM CLASS:0 END", 1, "@0");
        Check.rows(x, "SELECT THIS FROM INSTANCEOF:0 UNION SELECT THIS FROM CLASS:3 END", 6,
                "@0", "@1", "@2", "@3", "@4", "@5");
        Check.rows(x, "SELECT NULL FROM CLASS:1 END", 2, "n", "n");
        Check.rows(x, "SELECT THIS FROM INSTANCEOF:0 WHERE THIS FIELD:3 END", 4, "@1", "@2");
    }

    private static void noRows() {
        HeapQueries x = Heaps.family();
        Check.rows(x, "SELECT THIS FROM CLASS:1 END", 2, "@1", "@2");
        Check.rows(x, "SELECT THIS FROM CLASS:1 WHERE NULL END", 2);
        x.addClass(NONE);
        Check.rows(x, "SELECT THIS FROM CLASS:4 END", 0);
        HeapQueries empty = Heaps.ofOneClass(0);
        Check.rows(empty, "SELECT NUMBER:1 AT:0 FROM INSTANCEOF:0 END", 0);
    }

    /** Links to objects of the ring, beginning with one of them. */
    private static String[] links(int first, int count) {
        return IntStream.range(first, first + count).mapToObj(i -> "@" + i % 24).toArray(String[]::new);
    }

    private static void mostRows() {
        HeapQueries most = Heaps.ring();
        Check.write(most, "SELECT THIS FROM CLASS:0 UNION ".repeat(7) + "SELECT THIS FROM CLASS:0 END");
        Check.due("eight selects: run()", most.run(), 192);
        Check.due("eight selects: looked()", most.looked(), 192);
        for (int i = 0; i < 192; i++) {
            Check.due("eight selects: value(" + i + ")", most.value(i), i % 24);
        }
        Check.due("eight selects: the last row", Check.row(most, 191), "@23");
        Check.noRow(most, "eight selects", 192);
        String nested = "SELECT THIS FROM OPEN ".repeat(7) + "SELECT THIS FROM CLASS:0" + " CLOSE".repeat(7);
        Check.rows(Heaps.ring(), nested + " END", 192, links(0, 24));
        Check.rows(Heaps.ring(), "SELECT THIS" + " FIELD:0".repeat(35) + " FROM CLASS:0 END", 24, links(35, 24));
        String grown = "SELECT THIS FROM OPEN SELECT RETAINED THIS FROM CLASS:0 WHERE NOT THIS AT:0 CLOSE END";
        Check.rows(Heaps.ring(), grown, 48, links(0, 24));
        String six = "SELECT RETAINED THIS FROM CLASS:0 UNION ".repeat(5) + "SELECT RETAINED THIS FROM CLASS:0";
        Check.rows(Heaps.ring(), six + " END", 144, links(0, 144));
        String seven = "SELECT THIS FROM CLASS:0 UNION ".repeat(6) + "SELECT THIS FROM CLASS:0";
        Check.rows(Heaps.ring(), "SELECT THIS FROM OPEN " + seven + " CLOSE END", 336, links(0, 168));
    }

    private static void noRowsWithError() {
        String[] texts = {"SELECT NUMBER:1 AT:0 FROM CLASS:0 END", "SELECT NOT THIS FROM CLASS:0 END",
            "SELECT RETAINED NUMBER:1 FROM CLASS:0 END"};
        int[] errors = {PATH, TYPE, OBJECTS};
        for (int i = 0; i < texts.length; i++) {
            HeapQueries x = withRows();
            Check.error(x, texts[i], 1, errors[i]);
            Check.error(x, "SELECT THIS FROM CLASS:1 UNION " + texts[i], 3, errors[i]);
        }
    }

    private static void errors() {
        HeapQueries x = Heaps.family();
        Check.error(x, "SELECT NUMBER:1 AT:0 FROM CLASS:0 END", 1, PATH);
        Check.error(x, "SELECT NULL FROM CLASS:0 WHERE NUMBER:1 FIELD:0 END", 1, PATH);
        Check.error(x, "SELECT THIS PLUS THIS FROM CLASS:0 END", 1, TYPE);
        Check.error(x, "SELECT NULL FROM CLASS:0 WHERE THIS END", 1, TYPE);
        Check.error(x, "SELECT RETAINED NUMBER:1 FROM CLASS:0 END", 1, OBJECTS);
        Check.error(x, "SELECT THIS FROM OPEN SELECT NUMBER:1 FROM CLASS:0 CLOSE END", 1, OBJECTS);
    }

    private static void rowsOfLatest() {
        HeapQueries x = withRows();
        Check.due("while a text is given: rows()", x.rows(), 3);
        x.run();
        Check.due("after INCOMPLETE: rows()", x.rows(), 3);
        Check.rows(x, "SELECT THIS FROM CLASS:1 END", 2, "@1", "@2");
        Check.rows(x, "SELECT THIS FROM INSTANCEOF:0 END", 4, "@0", "@1", "@2", "@3");
        Check.rows(x, "SELECT THIS FROM CLASS:0 END", 1, "@0");
        x.addObject(0, 1);
        x.set(0, 0, 0, 0);
        Check.latest(x, "after a change of the snapshot", 1, "@0");
    }

    private static void rowsWithoutRun() {
        HeapQueries x = Heaps.family();
        Check.due("new: rows()", x.rows(), 0);
        x.run();
        Check.due("INCOMPLETE alone: rows()", x.rows(), 0);
        Check.write(x, "SELECT THIS FROM CLASS:1 END");
        Check.due("whole, but not run: rows()", x.rows(), 0);
        x.clear();
        Check.due("cleared: rows()", x.rows(), 0);
    }

    private static void rowsAfterError() {
        HeapQueries x = withRows();
        Check.give(x, "END");
        Check.due("run()", x.run(), PATH);
        Check.due("rows()", x.rows(), 0);
        Check.rows(x, "SELECT THIS FROM CLASS:1 END", 2, "@1", "@2");
    }

    private static HeapQueries threeKinds() {
        HeapQueries x = Heaps.ofOneClass(24);
        x.set(1, 0, 1, Check.MIN);
        x.set(2, 0, 1, Check.MAX);
        x.set(3, 0, 1, 0);
        x.set(4, 0, 2, 0);
        x.set(5, 0, 2, 23);
        Check.write(x, "SELECT THIS FIELD:0 FROM CLASS:0 WHERE THIS AT:0 LESS NUMBER:6 END");
        Check.due("run()", x.run(), 6);
        return x;
    }

    private static void kinds() {
        HeapQueries x = threeKinds();
        int[] want = {0, 1, 1, 1, 2, 2};
        for (int i = 0; i < want.length; i++) {
            Check.due("kind(" + i + ")", x.kind(i), want[i]);
        }
    }

    private static void kindOfNoRow() {
        HeapQueries x = threeKinds();
        Check.due("kind(6)", x.kind(6), NONE);
        for (int i : NO_INDEX) {
            Check.due("kind(" + i + ")", x.kind(i), NONE);
        }
        Check.write(x, "SELECT THIS FROM CLASS:0 WHERE THIS AT:0 LESS NUMBER:2 END");
        Check.due("run() with fewer rows", x.run(), 2);
        Check.due("kind(1), the last", x.kind(1), 2);
        Check.due("kind(2), a row no more", x.kind(2), NONE);
        Check.error(x, "SELECT NOT THIS FROM CLASS:0 END", 1, TYPE);
        Check.due("kind(0) after an error", x.kind(0), NONE);
        Check.due("kind(0) of a new object", new HeapQueries().kind(0), NONE);
    }

    private static void valueOfNumber() {
        HeapQueries x = threeKinds();
        Check.due("value(1)", x.value(1), Check.MIN);
        Check.due("value(2)", x.value(2), Check.MAX);
        Check.due("value(3)", x.value(3), 0);
    }

    private static void valueOfLink() {
        HeapQueries x = threeKinds();
        Check.due("value(4)", x.value(4), 0);
        Check.due("value(5)", x.value(5), 23);
    }

    private static void valueOfNull() {
        HeapQueries x = threeKinds();
        Check.due("value(0)", x.value(0), 0);
        x.set(5, 0, 0, 7);
        x.set(2, 0, 0, Check.MAX);
        x.run();
        Check.due("value(5), null with 7 beside it", x.value(5), 0);
        Check.due("value(2), null in place of a number", x.value(2), 0);
    }

    private static void valueOfNoRow() {
        HeapQueries x = threeKinds();
        Check.due("value(6)", x.value(6), 0);
        for (int i : NO_INDEX) {
            Check.due("value(" + i + ")", x.value(i), 0);
        }
        Check.write(x, "SELECT NUMBER:9 FROM CLASS:0 WHERE THIS AT:0 LESS NUMBER:2 END");
        Check.due("run() with fewer rows", x.run(), 2);
        Check.due("value(1), the last", x.value(1), 9);
        Check.due("value(2), a row no more", x.value(2), 0);
        Check.due("value(5), a row no more", x.value(5), 0);
        Check.error(x, "SELECT NOT THIS FROM CLASS:0 END", 1, TYPE);
        Check.due("value(1) after an error", x.value(1), 0);
        Check.due("value(0) of a new object", new HeapQueries().value(0), 0);
    }

    private static void lookedInLatest() {
        HeapQueries x = withRows();
        Check.due("while a text is given: looked()", x.looked(), 3);
        x.run();
        Check.due("after INCOMPLETE: looked()", x.looked(), 3);
        Check.give(x, "END");
        Check.due("whole, but not run: looked()", x.looked(), 3);
        x.run();
        Check.due("after an error: looked()", x.looked(), 1);
        Check.rows(x, "SELECT THIS FROM CLASS:1 END", 2, "@1", "@2");
        x.run();
        Check.due("run again: looked()", x.looked(), 2);
        x.addClass(NONE);
        Check.rows(x, "SELECT THIS FROM CLASS:4 END", 0);
    }

    private static void lookedInAllSelects() {
        HeapQueries x = Heaps.family();
        Check.rows(x, "SELECT NULL FROM CLASS:0 WHERE NULL UNION SELECT NULL FROM CLASS:1 WHERE NULL END", 3);
        Check.rows(x, "SELECT NULL FROM OPEN SELECT THIS FROM OPEN SELECT THIS FROM CLASS:1 CLOSE CLOSE WHERE NULL"
                + " UNION SELECT NULL FROM CLASS:3 WHERE NULL END", 8);
        Check.rows(x, "SELECT DISTINCT NULL FROM INSTANCEOF:0 UNION SELECT RETAINED NULL FROM CLASS:1 END", 6, "n");
    }

    private static void lookedUpToError() {
        HeapQueries x = Heaps.family();
        String third = "THIS AT:0 EQ NUMBER:2 AND THIS";
        Check.error(x, "SELECT " + third + " FROM INSTANCEOF:0 END", 3, TYPE);
        Check.error(x, "SELECT THIS FROM INSTANCEOF:0 WHERE " + third + " END", 3, TYPE);
        Check.error(x, "SELECT THIS FROM CLASS:3 UNION SELECT " + third + " FROM INSTANCEOF:0 END", 5, TYPE);
        Check.error(x, "SELECT THIS FROM OPEN SELECT " + third + " FROM INSTANCEOF:0 CLOSE END", 3, TYPE);
        Check.error(x, "SELECT " + third + " FROM OPEN SELECT THIS FROM INSTANCEOF:0 CLOSE END", 7, TYPE);
        Check.error(x, "SELECT THIS FROM OPEN SELECT NUMBER:1 FROM INSTANCEOF:0 CLOSE END", 4, OBJECTS);
    }

    private static void lookedSeveralTimes() {
        HeapQueries x = Heaps.family();
        Check.rows(x, "SELECT THIS FROM CLASS:0 UNION SELECT THIS FROM CLASS:0 END", 2, "@0", "@0");
        Check.rows(x, "SELECT NULL FROM OPEN SELECT THIS FIELD:0 FROM CLASS:1 CLOSE WHERE NULL END", 4);
    }

    private static void lookedWithoutRun() {
        HeapQueries x = Heaps.family();
        Check.due("new: looked()", x.looked(), 0);
        x.run();
        Check.due("INCOMPLETE alone: looked()", x.looked(), 0);
        Check.write(x, "SELECT THIS FROM CLASS:1 END");
        Check.due("whole, but not run: looked()", x.looked(), 0);
    }
}
