import java.util.List;
import java.util.function.Supplier;

/** 'A call that is refused (because an argument is not as said there or a limit is reached) changes nothing.' */
public final class RefusalTest {
    private static final int NONE = HeapQueries.NONE;
    private static final int MIN = Check.MIN;
    private static final int MAX = Check.MAX;

    private static final List<Supplier<HeapQueries>> STATES = List.of(
            RefusalTest::begun, RefusalTest::whole, RefusalTest::failed, RefusalTest::full);

    public static void main(String[] args) {
        Check.sentence("what is not refused is seen", RefusalTest::takenCallsAreSeen);
        Check.sentence("a refused addClass changes nothing", RefusalTest::addClass);
        Check.sentence("a refused addObject changes nothing", RefusalTest::addObject);
        Check.sentence("a refused set changes nothing", RefusalTest::set);
        Check.sentence("a refused setRoot changes nothing", RefusalTest::setRoot);
        Check.sentence("dominator and retained of no object change nothing", RefusalTest::noSuchObject);
        Check.sentence("a token refused for its code changes nothing", RefusalTest::tokenWithWrongCode);
        Check.sentence("a token refused for its number changes nothing", RefusalTest::tokenWithWrongNumber);
        Check.sentence("a token refused for its place changes nothing", RefusalTest::tokenAtWrongPlace);
        Check.sentence("a token refused because 40 were taken changes nothing", RefusalTest::tokenTooMany);
        Check.sentence("run: INCOMPLETE, changing nothing", RefusalTest::incompleteRun);
        Check.sentence("kind and value of no row change nothing", RefusalTest::noSuchRow);
        Check.sentence("calls that only tell change nothing", RefusalTest::tellingCalls);
        Check.end();
    }

    /** A run that gave rows, and the beginning of another text, within brackets of both sorts and a comparison. */
    private static HeapQueries begun() {
        HeapQueries x = Heaps.family();
        Check.write(x, "SELECT THIS FIELD:3 FROM INSTANCEOF:0 END");
        x.run();
        Check.write(x, "SELECT THIS FROM OPEN SELECT THIS FROM CLASS:1 WHERE THIS EQ OPEN THIS NE THIS");
        return x;
    }

    /** A text that was run and would now give other rows. */
    private static HeapQueries whole() {
        HeapQueries x = Heaps.family();
        Check.write(x, "SELECT THIS AT:3 FROM INSTANCEOF:0 END");
        x.run();
        x.set(3, 0, 0, 0);
        return x;
    }

    /** A run that ended with an error, and no tokens. */
    private static HeapQueries failed() {
        HeapQueries x = Heaps.family();
        Check.write(x, "SELECT THIS FROM CLASS:1 UNION SELECT NOT THIS FROM CLASS:0 END");
        x.run();
        x.clear();
        return x;
    }

    /** No more classes, objects or tokens can come. */
    private static HeapQueries full() {
        HeapQueries x = Heaps.full();
        x.setRoot(20, true);
        x.set(20, 1, 2, 5);
        x.set(5, 3, 1, 77);
        Check.write(x, "SELECT THIS FROM CLASS:4 END");
        x.run();
        Check.write(x, "SELECT OPEN THIS" + " PLUS THIS".repeat(18) + " EQ");
        return x;
    }

    private static void takenCallsAreSeen() {
        Check.due("addClass", Unchanged.isSeen(RefusalTest::begun, x -> x.addClass(3)), true);
        Check.due("addObject", Unchanged.isSeen(RefusalTest::begun, x -> x.addObject(0, 3)), true);
        for (int field = 0; field < 4; field++) {
            int k = field;
            Check.due("set number", Unchanged.isSeen(RefusalTest::begun, x -> x.set(5, k, 1, 6)), true);
            Check.due("set link", Unchanged.isSeen(RefusalTest::begun, x -> x.set(5, k, 2, 5)), true);
        }
        Check.due("set null", Unchanged.isSeen(RefusalTest::begun, x -> x.set(1, 3, 0, 8)), true);
        Check.due("setRoot", Unchanged.isSeen(RefusalTest::begun, x -> x.setRoot(5, true)), true);
        Check.due("token", Unchanged.isSeen(RefusalTest::begun, x -> Check.give(x, "CLOSE")), true);
        Check.due("run", Unchanged.isSeen(RefusalTest::whole, HeapQueries::run), true);
        Check.due("clear", Unchanged.isSeen(RefusalTest::whole, RefusalTest::clear), true);
    }

    private static boolean clear(HeapQueries x) {
        x.clear();
        return true;
    }

    private static void addClass() {
        for (Supplier<HeapQueries> state : STATES) {
            for (int parent : new int[] {MIN, -2, 8, 9, MAX}) {
                Unchanged.by("addClass(" + parent + ")", state, x -> x.addClass(parent), NONE);
            }
        }
        for (int parent : new int[] {4, 5, 7}) {
            Unchanged.by("addClass(" + parent + ")", RefusalTest::begun, x -> x.addClass(parent), NONE);
        }
        for (int parent = -1; parent < 8; parent++) {
            int of = parent;
            Unchanged.by("the ninth, addClass(" + of + ")", RefusalTest::full, x -> x.addClass(of), NONE);
        }
        Unchanged.by("addClass(0) without classes", HeapQueries::new, x -> x.addClass(0), NONE);
    }

    private static void addObject() {
        int[][] wrong = {{-1, 1}, {8, 1}, {MIN, 1}, {MAX, 1}, {0, 0}, {0, -1}, {3, 1001}, {3, MIN}, {3, MAX}, {-1, 0}};
        for (Supplier<HeapQueries> state : STATES) {
            for (int[] a : wrong) {
                Unchanged.by("addObject(" + a[0] + ", " + a[1] + ")", state, x -> x.addObject(a[0], a[1]), NONE);
            }
        }
        Unchanged.by("addObject(4, 1) with four classes", RefusalTest::begun, x -> x.addObject(4, 1), NONE);
        for (int c = 0; c < 8; c++) {
            int of = c;
            Unchanged.by("the 25th, addObject(" + of + ", 1)", RefusalTest::full, x -> x.addObject(of, 1), NONE);
        }
        Unchanged.by("addObject(0, 1) without classes", HeapQueries::new, x -> x.addObject(0, 1), NONE);
    }

    private static void refusedSet(Supplier<HeapQueries> state, int object, int field, int kind, int value) {
        String call = "set(" + object + ", " + field + ", " + kind + ", " + value + ")";
        Unchanged.by(call, state, x -> x.set(object, field, kind, value), false);
    }

    private static void set() {
        int[][] wrong = {{-1, 0, 1, 5}, {24, 0, 1, 5}, {MIN, 0, 1, 5}, {MAX, 0, 1, 5}, {1, -1, 1, 5}, {1, 4, 1, 5},
            {1, MIN, 1, 5}, {1, MAX, 1, 5}, {1, 3, -1, 5}, {1, 3, 3, 5}, {1, 3, MIN, 5}, {1, 3, MAX, 5}, {1, 3, 2, -1},
            {1, 3, 2, 24}, {1, 3, 2, MIN}, {1, 3, 2, MAX}, {5, 0, 2, 24}, {5, 4, 0, 0}, {24, 3, 2, 24}};
        for (Supplier<HeapQueries> state : STATES) {
            for (int[] a : wrong) {
                refusedSet(state, a[0], a[1], a[2], a[3]);
            }
        }
        for (int field = 0; field < 4; field++) {
            for (int kind = 0; kind <= 2; kind++) {
                refusedSet(RefusalTest::begun, 6, field, kind, 1);
                refusedSet(HeapQueries::new, 0, field, kind, 0);
            }
            refusedSet(RefusalTest::begun, 0, field, 2, 6);
        }
    }

    private static void setRoot() {
        for (Supplier<HeapQueries> state : STATES) {
            for (int object : new int[] {MIN, -32, -1, 24, 32, MAX}) {
                Unchanged.by("setRoot(" + object + ", true)", state, x -> x.setRoot(object, true), false);
                Unchanged.by("setRoot(" + object + ", false)", state, x -> x.setRoot(object, false), false);
            }
        }
        Unchanged.by("setRoot(6, true) with six objects", RefusalTest::begun, x -> x.setRoot(6, true), false);
        Unchanged.by("setRoot(0, true) without objects", HeapQueries::new, x -> x.setRoot(0, true), false);
    }

    private static void noSuchObject() {
        for (Supplier<HeapQueries> state : STATES) {
            for (int object : new int[] {MIN, -1, 24, MAX}) {
                Unchanged.by("dominator(" + object + ")", state, x -> x.dominator(object), -2);
                Unchanged.by("retained(" + object + ")", state, x -> x.retained(object), NONE);
            }
        }
    }

    private static void refusedToken(Supplier<HeapQueries> state, int code, int n) {
        Unchanged.by("token(" + code + ", " + n + ")", state, x -> x.token(code, n), false);
    }

    private static void tokenWithWrongCode() {
        for (Supplier<HeapQueries> state : STATES) {
            for (int code : new int[] {MIN, -1, 25, 26, MAX}) {
                refusedToken(state, code, 0);
            }
        }
    }

    private static HeapQueries after(String beginning) {
        HeapQueries x = Heaps.family();
        Check.write(x, beginning);
        return x;
    }

    private static void tokenWithWrongNumber() {
        for (int n : new int[] {MIN, -1, 4, MAX}) {
            refusedToken(() -> after("SELECT THIS FROM"), 8, n);
            refusedToken(() -> after("SELECT THIS FROM"), 9, n);
            refusedToken(() -> after("SELECT THIS"), 13, n);
            refusedToken(() -> after("SELECT THIS"), 14, n == 4 ? 6 : n);
        }
    }

    /** All codes but those that are taken behind the beginning. */
    private static void refusedBehind(String beginning, String... taken) {
        for (String word : Check.WORDS) {
            if (!List.of(taken).contains(word)) {
                refusedToken(() -> after(beginning), Check.WORDS.indexOf(word), 0);
            }
        }
    }

    private static void tokenAtWrongPlace() {
        refusedBehind("SELECT", "DISTINCT", "RETAINED", "NOT", "NUMBER", "NULL", "THIS", "OPEN");
        refusedBehind("SELECT THIS EQ OPEN THIS", "CLOSE", "FIELD", "AT", "OR", "AND", "EQ", "NE", "LESS", "PLUS",
                "MINUS", "TIMES");
        refusedBehind("SELECT OPEN THIS EQ THIS", "CLOSE", "FIELD", "AT", "OR", "AND", "PLUS", "MINUS", "TIMES");
        refusedBehind("SELECT THIS EQ THIS FROM", "CLASS", "INSTANCEOF", "OPEN");
        refusedBehind("SELECT THIS FROM OPEN SELECT THIS FROM CLASS:1", "WHERE", "UNION", "CLOSE");
        refusedBehind("SELECT THIS FROM CLASS:1 WHERE THIS EQ NULL", "UNION", "END", "FIELD", "AT", "OR", "AND", "PLUS",
                "MINUS", "TIMES");
        refusedBehind("SELECT THIS FROM CLASS:1 END");
        for (int code = 1; code <= 24; code++) {
            refusedToken(RefusalTest::failed, code, 0);
        }
    }

    private static void tokenTooMany() {
        for (int code = 0; code <= 24; code++) {
            refusedToken(RefusalTest::full, code, 0);
            refusedToken(() -> after("SELECT" + " NOT".repeat(35) + " NULL FROM CLASS:0 END"), code, 0);
            refusedToken(() -> after("SELECT THIS" + " FIELD:0".repeat(38)), code, 0);
        }
    }

    private static void incompleteRun() {
        for (Supplier<HeapQueries> state : List.<Supplier<HeapQueries>>of(
                HeapQueries::new, RefusalTest::begun, RefusalTest::failed, RefusalTest::full)) {
            Unchanged.by("run()", state, HeapQueries::run, HeapQueries.INCOMPLETE);
        }
    }

    private static void noSuchRow() {
        for (Supplier<HeapQueries> state : STATES) {
            for (int i : new int[] {MIN, -1, 4, 192, MAX}) {
                Unchanged.by("kind(" + i + ")", state, x -> x.kind(i), NONE);
                Unchanged.by("value(" + i + ")", state, x -> x.value(i), 0);
            }
        }
    }

    private static void tellingCalls() {
        Unchanged.by("tokens()", RefusalTest::begun, HeapQueries::tokens, 15);
        Unchanged.by("depth()", RefusalTest::begun, HeapQueries::depth, 2);
        Unchanged.by("rows()", RefusalTest::begun, HeapQueries::rows, 4);
        Unchanged.by("kind(1)", RefusalTest::begun, x -> x.kind(1), 1);
        Unchanged.by("value(1)", RefusalTest::begun, x -> x.value(1), 8);
        Unchanged.by("looked()", RefusalTest::begun, HeapQueries::looked, 4);
        Unchanged.by("dominator(4)", RefusalTest::begun, x -> x.dominator(4), 3);
        Unchanged.by("retained(3)", RefusalTest::begun, x -> x.retained(3), 105);
        Unchanged.by("retained(0) after a change", RefusalTest::whole, x -> x.retained(0), 65);
        Unchanged.by("rows() after a change", RefusalTest::whole, HeapQueries::rows, 4);
        Unchanged.by("value(0) after a change", RefusalTest::whole, x -> x.value(0), 165);
    }
}
