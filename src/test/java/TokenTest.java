import java.util.Arrays;
import java.util.List;

/** Promises 8 to 11: token, tokens, depth, clear. */
public final class TokenTest {
    private static final List<String> OPERAND = List.of("NUMBER", "NULL", "THIS", "OPEN");
    private static final List<String> AFTER_U =
            List.of("FIELD", "AT", "OR", "AND", "EQ", "NE", "LESS", "PLUS", "MINUS", "TIMES");
    private static final List<String> AFTER_COMPARED_U = List.of("FIELD", "AT", "OR", "AND", "PLUS", "MINUS", "TIMES");

    public static void main(String[] args) {
        places();
        numbers();
        limit();
        depths();
        clears();
        Check.end();
    }

    private static HeapQueries withClass() {
        HeapQueries x = new HeapQueries();
        x.addClass(HeapQueries.NONE);
        return x;
    }

    /** Looks which tokens are taken behind a beginning, trying each on an object of its own. */
    private static void allowed(String beginning, List<?>... groups) {
        List<?> want = Arrays.stream(groups).flatMap(List::stream).toList();
        int given = beginning.isEmpty() ? 0 : beginning.split(" ").length;
        HeapQueries refusing = withClass();
        if (given > 0) {
            Check.write(refusing, beginning);
        }
        int depth = refusing.depth();
        for (String word : Check.WORDS) {
            boolean isDue = want.contains(word);
            HeapQueries x = refusing;
            if (isDue) {
                x = withClass();
                if (given > 0) {
                    Check.write(x, beginning);
                }
            }
            Check.due(beginning + ": then " + word, Check.give(x, word + ":0"), isDue);
            Check.due(beginning + ": tokens() then", x.tokens(), isDue ? given + 1 : given);
            int change = !isDue ? 0 : word.equals("OPEN") ? 1 : word.equals("CLOSE") ? -1 : 0;
            Check.due(beginning + ": depth() after " + word, x.depth(), depth + change);
        }
        for (int code : new int[] {-1, 25, 26, Integer.MAX_VALUE, Integer.MIN_VALUE}) {
            Check.due(beginning + ": then the code " + code, refusing.token(code, 0), false);
        }
        Check.due(beginning + ": tokens() after refusals", refusing.tokens(), given);
    }

    private static void places() {
        List<String> none = List.of();
        List<String> not = List.of("NOT");
        List<String> union = List.of("UNION");
        List<String> close = List.of("CLOSE");
        List<String> end = List.of("END");
        List<String> where = List.of("WHERE");
        List<String> from = List.of("FROM");
        allowed("", List.of("SELECT"));
        allowed("SELECT", List.of("DISTINCT", "RETAINED"), OPERAND, not);
        allowed("SELECT DISTINCT", List.of("RETAINED"), OPERAND, not);
        allowed("SELECT RETAINED", OPERAND, not);
        allowed("SELECT DISTINCT RETAINED", OPERAND, not);
        allowed("SELECT NOT", OPERAND, not);
        allowed("SELECT THIS", AFTER_U, from);
        allowed("SELECT NULL", AFTER_U, from);
        allowed("SELECT NUMBER", AFTER_U, from);
        allowed("SELECT THIS FIELD:3", AFTER_U, from);
        allowed("SELECT THIS AT:5", AFTER_U, from);
        for (String tight : List.of("PLUS", "MINUS", "TIMES")) {
            allowed("SELECT THIS " + tight, OPERAND);
            allowed("SELECT THIS " + tight + " THIS", AFTER_U, from);
        }
        for (String comparison : List.of("EQ", "NE", "LESS")) {
            allowed("SELECT THIS " + comparison, OPERAND);
            allowed("SELECT THIS " + comparison + " THIS", AFTER_COMPARED_U, from);
            allowed("SELECT THIS " + comparison + " THIS TIMES", OPERAND);
            allowed("SELECT THIS " + comparison + " THIS TIMES THIS AT:1", AFTER_COMPARED_U, from);
            allowed("SELECT THIS " + comparison + " OPEN", OPERAND, not);
            allowed("SELECT THIS " + comparison + " OPEN THIS", AFTER_U, close);
            allowed("SELECT THIS " + comparison + " OPEN THIS CLOSE", AFTER_COMPARED_U, from);
            allowed("SELECT OPEN THIS " + comparison + " THIS", AFTER_COMPARED_U, close);
            allowed("SELECT OPEN THIS " + comparison + " THIS CLOSE", AFTER_U, from);
            allowed("SELECT NOT THIS " + comparison + " THIS", AFTER_COMPARED_U, from);
        }
        for (String loose : List.of("AND", "OR")) {
            allowed("SELECT THIS " + loose, OPERAND, not);
            allowed("SELECT THIS EQ THIS " + loose + " THIS", AFTER_U, from);
            allowed("SELECT THIS EQ THIS " + loose + " NOT NOT THIS", AFTER_U, from);
        }
        allowed("SELECT OPEN", OPERAND, not);
        allowed("SELECT OPEN OPEN THIS CLOSE", AFTER_U, close);
        allowed("SELECT THIS FROM", List.of("CLASS", "INSTANCEOF", "OPEN"));
        allowed("SELECT THIS FROM CLASS:0", where, union, end);
        allowed("SELECT THIS EQ THIS FROM INSTANCEOF:0", where, union, end);
        allowed("SELECT THIS FROM CLASS:0 END", none);
        allowed("SELECT THIS EQ THIS FROM CLASS:0 WHERE", OPERAND, not);
        allowed("SELECT THIS EQ THIS FROM CLASS:0 WHERE THIS", AFTER_U, union, end);
        allowed("SELECT THIS FROM CLASS:0 WHERE THIS EQ THIS", AFTER_COMPARED_U, union, end);
        allowed("SELECT THIS FROM CLASS:0 WHERE OPEN THIS", AFTER_U, close);
        allowed("SELECT THIS FROM CLASS:0 WHERE OPEN THIS CLOSE", AFTER_U, union, end);
        allowed("SELECT THIS FROM CLASS:0 WHERE THIS END", none);
        allowed("SELECT THIS FROM CLASS:0 UNION", List.of("SELECT"));
        allowed("SELECT THIS FROM CLASS:0 WHERE THIS EQ THIS UNION SELECT THIS", AFTER_U, from);
        allowed("SELECT THIS FROM OPEN", List.of("SELECT"));
        allowed("SELECT THIS FROM OPEN SELECT THIS", AFTER_U, from);
        allowed("SELECT THIS FROM OPEN SELECT OPEN THIS CLOSE", AFTER_U, from);
        allowed("SELECT THIS FROM OPEN SELECT THIS FROM CLASS:0", where, union, close);
        allowed("SELECT THIS FROM OPEN SELECT THIS FROM CLASS:0 WHERE THIS", AFTER_U, union, close);
        allowed("SELECT THIS FROM OPEN SELECT THIS FROM CLASS:0 WHERE OPEN THIS", AFTER_U, close);
        allowed("SELECT THIS FROM OPEN SELECT THIS FROM CLASS:0 WHERE OPEN THIS CLOSE", AFTER_U, union, close);
        allowed("SELECT THIS FROM OPEN SELECT THIS FROM CLASS:0 UNION SELECT THIS", AFTER_U, from);
        allowed("SELECT THIS FROM OPEN SELECT THIS FROM CLASS:0 CLOSE", where, union, end);
        allowed("SELECT THIS FROM OPEN SELECT THIS FROM CLASS:0 WHERE THIS CLOSE", where, union, end);
        allowed("SELECT THIS FROM OPEN SELECT THIS FROM CLASS:0 WHERE THIS CLOSE WHERE THIS", AFTER_U, union, end);
        allowed("SELECT THIS FROM OPEN SELECT THIS FROM OPEN SELECT THIS FROM CLASS:0 CLOSE", where, union, close);
    }

    private static void taken(String beginning, int code, int n, boolean isDue) {
        HeapQueries x = withClass();
        x.addClass(0);
        Check.write(x, beginning);
        int before = x.tokens();
        Check.due(beginning + ": token(" + code + ", " + n + ")", x.token(code, n), isDue);
        Check.due(beginning + ": tokens()", x.tokens(), isDue ? before + 1 : before);
    }

    private static void numbers() {
        for (int n : new int[] {Integer.MIN_VALUE, -1, 0, 1, 2, 3, 4, 5, 6, 7, 8, Integer.MAX_VALUE}) {
            taken("SELECT THIS FROM", 8, n, n == 0 || n == 1);
            taken("SELECT THIS FROM", 9, n, n == 0 || n == 1);
            taken("SELECT THIS", 13, n, n >= 0 && n <= 3);
            taken("SELECT THIS", 14, n, n >= 0 && n <= 5);
            taken("SELECT", 10, n, true);
            taken("SELECT", 11, n, true);
            taken("SELECT", 12, n, true);
            taken("SELECT", 6, n, true);
            taken("SELECT THIS FROM CLASS:0", 24, n, true);
        }
        HeapQueries x = new HeapQueries();
        Check.write(x, "SELECT THIS FROM");
        Check.due("a class that is not there yet", x.token(8, 0), false);
        x.addClass(HeapQueries.NONE);
        Check.due("a class that is there now", x.token(8, 0), true);
    }

    private static void limit() {
        HeapQueries x = withClass();
        x.addObject(0, 1);
        String text = "SELECT" + " NOT".repeat(35) + " NULL FROM CLASS:0";
        Check.write(x, text);
        Check.due("39 tokens", x.tokens(), 39);
        Check.due("the 40th", Check.give(x, "END"), true);
        Check.due("the 41st", Check.give(x, "END"), false);
        Check.due("40 tokens", x.tokens(), 40);
        Check.again(x, text, 1, "1");
        Check.write(x, "SELECT" + " OPEN".repeat(39));
        Check.due("40 tokens", x.tokens(), 40);
        Check.due("39 open", x.depth(), 39);
        for (int code = 0; code <= 24; code++) {
            Check.due("the 41st, " + Check.WORDS.get(code), x.token(code, 0), false);
        }
        Check.due("still 40 tokens", x.tokens(), 40);
        Check.due("still 39 open", x.depth(), 39);
        Check.due("no END in 40 tokens", x.run(), HeapQueries.INCOMPLETE);
        x.clear();
        Check.due("none after clear()", x.tokens(), 0);
        Check.due("none open after clear()", x.depth(), 0);
        Check.write(x, "SELECT" + " OPEN".repeat(17) + " THIS" + " CLOSE".repeat(17) + " FROM CLASS:0 END");
        Check.again(x, "seventeen brackets", 1, "@0");
    }

    private static void depths() {
        HeapQueries x = withClass();
        String[] tokens = ("SELECT OPEN OPEN THIS CLOSE EQ OPEN NULL CLOSE CLOSE FROM OPEN SELECT THIS FROM CLASS:0"
                + " WHERE OPEN NOT THIS CLOSE CLOSE END").split(" ");
        int open = 0;
        for (String token : tokens) {
            Check.due("depth: " + token, Check.give(x, token), true);
            open += token.equals("OPEN") ? 1 : token.equals("CLOSE") ? -1 : 0;
            Check.due("depth() after " + token, x.depth(), open);
        }
        Check.write(x, "SELECT OPEN");
        Check.due("CLOSE refused", Check.give(x, "CLOSE"), false);
        Check.due("depth() after a refused CLOSE", x.depth(), 1);
        Check.write(x, "SELECT THIS");
        Check.due("OPEN refused", Check.give(x, "OPEN"), false);
        Check.due("depth() after a refused OPEN", x.depth(), 0);
    }

    private static void clears() {
        HeapQueries x = withClass();
        x.addObject(0, 3);
        x.addObject(0, 4);
        x.setRoot(1, true);
        Check.rows(x, "SELECT THIS AT:2 FROM CLASS:0 END", 2, "3", "4");
        x.clear();
        Check.due("clear: tokens()", x.tokens(), 0);
        Check.due("clear: run()", x.run(), HeapQueries.INCOMPLETE);
        Check.due("clear: rows()", x.rows(), 2);
        Check.due("clear: row 0", Check.row(x, 0), "3");
        Check.due("clear: row 1", Check.row(x, 1), "4");
        Check.due("clear: looked()", x.looked(), 2);
        Check.due("clear: retained(1)", x.retained(1), 4);
        x.clear();
        Check.due("clear twice: tokens()", x.tokens(), 0);
        Check.write(x, "SELECT THIS EQ THIS FROM CLASS:0 WHERE THIS EQ OPEN THIS EQ OPEN THIS");
        Check.write(x, "SELECT THIS");
        Check.due("clear forgets a comparison", Check.give(x, "EQ"), true);
        Check.write(x, "SELECT THIS FROM OPEN SELECT THIS FROM CLASS:0 WHERE OPEN THIS");
        Check.write(x, "SELECT THIS");
        Check.due("clear forgets WHERE and brackets", Check.give(x, "END"), false);
        Check.due("clear forgets WHERE and brackets", Check.give(x, "CLOSE"), false);
        Check.due("clear forgets WHERE and brackets", Check.give(x, "FROM"), true);
    }
}
