import java.util.Arrays;
import java.util.List;

/** What the document says of tokens and of the grammar, and promises 8 to 11: token, tokens, depth, clear. */
public final class TokenTest {
    private static final int[] INTS = {Check.MIN, -1, 0, 1, 2, 3, 4, 5, 6, 7, 8, Check.MAX};

    private static final List<String> OPERAND = List.of("NUMBER", "NULL", "THIS", "OPEN");
    private static final List<String> AFTER_U =
            List.of("FIELD", "AT", "OR", "AND", "EQ", "NE", "LESS", "PLUS", "MINUS", "TIMES");
    private static final List<String> AFTER_COMPARED_U = List.of("FIELD", "AT", "OR", "AND", "PLUS", "MINUS", "TIMES");
    private static final List<String> COMPARISONS = List.of("EQ", "NE", "LESS");
    private static final List<String> NOTHING = List.of();
    private static final List<String> NOT = List.of("NOT");
    private static final List<String> SELECT = List.of("SELECT");
    private static final List<String> FROM = List.of("FROM");
    private static final List<String> WHERE = List.of("WHERE");
    private static final List<String> UNION = List.of("UNION");
    private static final List<String> CLOSE = List.of("CLOSE");
    private static final List<String> END = List.of("END");

    public static void main(String[] args) {
        codesAndNumbers();
        grammar();
        limits();
        promises();
        Check.end();
    }

    private static void codesAndNumbers() {
        Check.sentence("TAKEN if its code is 0 .. 24", TokenTest::codes);
        Check.sentence("The number is looked at only for CLASS, INSTANCEOF, NUMBER, FIELD and AT",
                TokenTest::numberNotLookedAt);
        Check.sentence("CLASS and INSTANCEOF (it must be that of a class there is)", TokenTest::classNumbers);
        Check.sentence("NUMBER (any int)", TokenTest::anyNumber);
        Check.sentence("FIELD (0 .. 3)", TokenTest::fieldNumbers);
        Check.sentence("AT (0 .. 5)", TokenTest::factNumbers);
    }

    private static void grammar() {
        Check.sentence("text = query END", TokenTest::text);
        Check.sentence("query = select {UNION select}", TokenTest::query);
        Check.sentence("select = SELECT [DISTINCT] [RETAINED] e FROM source [WHERE e]", TokenTest::select);
        Check.sentence("source = CLASS | INSTANCEOF | OPEN query CLOSE", TokenTest::source);
        Check.sentence("e = a {OR a}, a = b {AND b}", TokenTest::orAndAnd);
        Check.sentence("b = NOT b | c", TokenTest::not);
        Check.sentence("c = s [EQ s | NE s | LESS s]", TokenTest::comparisons);
        Check.sentence("s = p {PLUS p | MINUS p}, p = m {TIMES m}", TokenTest::arithmetic);
        Check.sentence("m = u {FIELD | AT}", TokenTest::paths);
        Check.sentence("u = NUMBER | NULL | THIS | OPEN e CLOSE", TokenTest::units);
    }

    private static void limits() {
        Check.sentence("fewer than 40 tokens were taken", TokenTest::fortyTokens);
        Check.sentence("were taken (a refused one does not count)", TokenTest::refusedDoNotCount);
        Check.sentence("since the latest clear() (or since the beginning)", TokenTest::fortySinceClear);
        Check.sentence("a text or the beginning of a text, however long the text", TokenTest::beginningsWithoutRoom);
        Check.sentence("the codes are the beginning of a text, whatever the classes",
                TokenTest::beginningsWithoutClass);
        Check.sentence("a text of 40 tokens", TokenTest::longestTexts);
    }

    private static void promises() {
        Check.sentence("token: takes a token and answers true, or refuses it and answers false", TokenTest::answers);
        Check.sentence("tokens: how many were taken since the latest clear()", TokenTest::counts);
        Check.sentence("depth: how many are OPEN, less those that are CLOSE", TokenTest::depths);
        Check.sentence("depth: of the tokens taken", TokenTest::depthAfterRefusals);
        Check.sentence("clear: forgets the tokens", TokenTest::clearForgets);
        Check.sentence("clear: the snapshot stays", TokenTest::clearKeepsSnapshot);
        Check.sentence("clear: the rows of the latest run and what looked() says stay", TokenTest::clearKeepsRows);
        Check.sentence("clear: without tokens", TokenTest::clearOfNothing);
    }

    private static HeapQueries after(String beginning) {
        HeapQueries x = Heaps.ofOneClass(1);
        if (!beginning.isEmpty()) {
            Check.write(x, beginning);
        }
        return x;
    }

    /** Looks which tokens are taken behind a beginning: refused ones on one object, each other on one of its own. */
    private static void allowed(String beginning, List<?>... groups) {
        List<?> want = Arrays.stream(groups).flatMap(List::stream).toList();
        HeapQueries refusing = after(beginning);
        int given = refusing.tokens();
        int depth = refusing.depth();
        for (String word : Check.WORDS) {
            boolean isDue = want.contains(word);
            HeapQueries x = isDue ? after(beginning) : refusing;
            Check.due(beginning + ": then " + word, Check.give(x, word + ":0"), isDue);
            Check.due(beginning + ": tokens() then", x.tokens(), isDue ? given + 1 : given);
            int change = !isDue ? 0 : word.equals("OPEN") ? 1 : word.equals("CLOSE") ? -1 : 0;
            Check.due(beginning + ": depth() after " + word, x.depth(), depth + change);
        }
        // What was refused has left no trace: all that could be taken still can.
        for (Object word : want.isEmpty() ? want : want.subList(0, 1)) {
            Check.due(beginning + ": " + word + " after refusals", Check.give(refusing, word + ":0"), true);
        }
    }

    private static void codes() {
        String every = "SELECT DISTINCT RETAINED NOT THIS FIELD:0 AT:0 EQ NUMBER:0 OR NULL AND THIS NE THIS FROM OPEN"
                + " SELECT THIS FROM INSTANCEOF:0 CLOSE WHERE THIS PLUS THIS MINUS THIS TIMES THIS LESS THIS"
                + " UNION SELECT THIS FROM CLASS:0";
        String[] tokens = (every + " END").split(" ");
        for (int code = 0; code <= 24; code++) {
            String word = Check.WORDS.get(code);
            boolean isThere = Arrays.stream(tokens).anyMatch(token -> token.split(":")[0].equals(word));
            Check.due("the text has " + word, isThere, true);
        }
        HeapQueries x = Heaps.ofOneClass(1);
        int taken = 0;
        for (String token : tokens) {
            for (int code : new int[] {-1, 25, 26, Check.MIN, Check.MAX}) {
                Check.due("token(" + code + ", 0) before " + token, x.token(code, 0), false);
            }
            Check.due("token " + token, Check.give(x, token), true);
            taken++;
            Check.due("tokens() after " + token, x.tokens(), taken);
        }
        for (int code : new int[] {-1, 25, 26, Check.MIN, Check.MAX}) {
            Check.due("token(" + code + ", 0) after END", x.token(code, 0), false);
        }
    }

    private static void taken(String beginning, String word, int n, boolean isDue) {
        HeapQueries x = after(beginning);
        int before = x.tokens();
        Check.due(beginning + ": " + word + " " + n, x.token(Check.WORDS.indexOf(word), n), isDue);
        Check.due(beginning + ": tokens()", x.tokens(), isDue ? before + 1 : before);
    }

    private static void numberNotLookedAt() {
        for (int n : INTS) {
            taken("", "SELECT", n, true);
            for (String word : List.of("DISTINCT", "RETAINED", "OPEN", "NULL", "THIS", "NOT")) {
                taken("SELECT", word, n, true);
            }
            for (String word : List.of("FROM", "OR", "AND", "EQ", "NE", "LESS", "PLUS", "MINUS", "TIMES")) {
                taken("SELECT THIS", word, n, true);
            }
            for (String word : List.of("WHERE", "UNION", "END")) {
                taken("SELECT THIS FROM CLASS:0", word, n, true);
            }
            taken("SELECT THIS FROM", "OPEN", n, true);
            taken("SELECT OPEN THIS", "CLOSE", n, true);
        }
        HeapQueries x = Heaps.ofOneClass(1);
        Check.rows(x, "SELECT:-1 NOT:9 THIS:5 EQ:-7 NULL:8 FROM:99 CLASS:0 WHERE:3 NUMBER:1 END:-24", 1, "1");
    }

    private static void classNumbers() {
        for (int classes = 0; classes <= 8; classes++) {
            HeapQueries x = new HeapQueries();
            for (int c = 0; c < classes; c++) {
                x.addClass(c - 1);
            }
            for (String word : List.of("CLASS", "INSTANCEOF")) {
                for (int n : new int[] {Check.MIN, -2, -1, classes, classes + 1, 8, 9, Check.MAX}) {
                    Check.write(x, "SELECT THIS FROM");
                    Check.due(classes + " classes: " + word + " " + n, Check.give(x, word + ":" + n), false);
                    Check.due(classes + " classes: tokens()", x.tokens(), 3);
                }
                for (int n = 0; n < classes; n++) {
                    Check.write(x, "SELECT THIS FROM");
                    Check.due(classes + " classes: " + word + " " + n, Check.give(x, word + ":" + n), true);
                }
            }
        }
        HeapQueries late = new HeapQueries();
        Check.write(late, "SELECT THIS FROM");
        Check.due("a class that is not there yet", Check.give(late, "CLASS:0"), false);
        late.addClass(HeapQueries.NONE);
        Check.due("a class that is there now", Check.give(late, "CLASS:0"), true);
    }

    private static void anyNumber() {
        for (int n : INTS) {
            taken("SELECT", "NUMBER", n, true);
            HeapQueries x = Heaps.ofOneClass(1);
            Check.rows(x, "SELECT NUMBER:" + n + " FROM CLASS:0 END", 1, Integer.toString(n));
        }
    }

    private static void fieldNumbers() {
        for (int n : INTS) {
            taken("SELECT THIS", "FIELD", n, n >= 0 && n <= 3);
            taken("SELECT NULL AT:0", "FIELD", n, n >= 0 && n <= 3);
        }
    }

    private static void factNumbers() {
        for (int n : INTS) {
            taken("SELECT THIS", "AT", n, n >= 0 && n <= 5);
            taken("SELECT NULL FIELD:0", "AT", n, n >= 0 && n <= 5);
        }
    }

    private static void text() {
        allowed("", SELECT);
        allowed("SELECT THIS FROM CLASS:0", WHERE, UNION, END);
        allowed("SELECT THIS FROM CLASS:0 END", NOTHING);
        allowed("SELECT THIS FROM CLASS:0 WHERE THIS END", NOTHING);
        allowed("SELECT THIS FROM OPEN SELECT THIS FROM CLASS:0 CLOSE END", NOTHING);
    }

    private static void query() {
        String select = "SELECT THIS FROM CLASS:0";
        allowed(select + " UNION", SELECT);
        allowed(select + " UNION " + select, WHERE, UNION, END);
        allowed((select + " UNION ").repeat(7) + select, WHERE, UNION, END);
        allowed(select + " WHERE THIS EQ THIS UNION SELECT THIS", AFTER_U, FROM);
        allowed("SELECT THIS FROM OPEN " + select + " UNION", SELECT);
        allowed("SELECT THIS FROM OPEN " + select + " UNION SELECT THIS", AFTER_U, FROM);
        allowed("SELECT THIS FROM OPEN " + select + " UNION " + select, WHERE, UNION, CLOSE);
    }

    private static void select() {
        allowed("SELECT", List.of("DISTINCT", "RETAINED"), OPERAND, NOT);
        allowed("SELECT DISTINCT", List.of("RETAINED"), OPERAND, NOT);
        allowed("SELECT RETAINED", OPERAND, NOT);
        allowed("SELECT DISTINCT RETAINED", OPERAND, NOT);
        allowed("SELECT THIS", AFTER_U, FROM);
        allowed("SELECT DISTINCT THIS", AFTER_U, FROM);
        allowed("SELECT THIS EQ THIS FROM INSTANCEOF:0", WHERE, UNION, END);
        allowed("SELECT THIS EQ THIS FROM CLASS:0 WHERE", OPERAND, NOT);
        allowed("SELECT THIS EQ THIS FROM CLASS:0 WHERE THIS", AFTER_U, UNION, END);
        allowed("SELECT THIS FROM CLASS:0 WHERE THIS EQ THIS", AFTER_COMPARED_U, UNION, END);
        allowed("SELECT THIS FROM CLASS:0 WHERE OPEN THIS", AFTER_U, CLOSE);
        allowed("SELECT THIS FROM CLASS:0 WHERE OPEN THIS CLOSE", AFTER_U, UNION, END);
    }

    private static void source() {
        allowed("SELECT THIS FROM", List.of("CLASS", "INSTANCEOF", "OPEN"));
        allowed("SELECT THIS FROM OPEN", SELECT);
        allowed("SELECT THIS FROM OPEN SELECT THIS", AFTER_U, FROM);
        allowed("SELECT THIS FROM OPEN SELECT OPEN THIS CLOSE", AFTER_U, FROM);
        String open = "SELECT THIS FROM OPEN SELECT THIS FROM ";
        allowed(open + "CLASS:0", WHERE, UNION, CLOSE);
        allowed(open + "CLASS:0 WHERE THIS", AFTER_U, UNION, CLOSE);
        allowed(open + "CLASS:0 WHERE OPEN THIS", AFTER_U, CLOSE);
        allowed(open + "CLASS:0 WHERE OPEN THIS CLOSE", AFTER_U, UNION, CLOSE);
        allowed(open + "CLASS:0 CLOSE", WHERE, UNION, END);
        allowed(open + "CLASS:0 WHERE THIS CLOSE", WHERE, UNION, END);
        allowed(open + "CLASS:0 WHERE THIS CLOSE WHERE THIS", AFTER_U, UNION, END);
        allowed(open + "OPEN", SELECT);
        allowed(open + "OPEN SELECT THIS FROM CLASS:0 CLOSE", WHERE, UNION, CLOSE);
        allowed(open + "OPEN SELECT THIS FROM CLASS:0 CLOSE WHERE THIS CLOSE", WHERE, UNION, END);
    }

    private static void orAndAnd() {
        for (String loose : List.of("AND", "OR")) {
            allowed("SELECT THIS " + loose, OPERAND, NOT);
            allowed("SELECT THIS " + loose + " THIS " + loose, OPERAND, NOT);
            allowed("SELECT THIS " + loose + " THIS", AFTER_U, FROM);
            allowed("SELECT THIS EQ THIS " + loose + " THIS", AFTER_U, FROM);
            allowed("SELECT THIS EQ THIS " + loose + " NOT NOT THIS", AFTER_U, FROM);
            allowed("SELECT NOT THIS " + loose, OPERAND, NOT);
        }
    }

    private static void not() {
        allowed("SELECT NOT", OPERAND, NOT);
        allowed("SELECT NOT NOT NOT", OPERAND, NOT);
        allowed("SELECT NOT THIS", AFTER_U, FROM);
        allowed("SELECT OPEN NOT", OPERAND, NOT);
        allowed("SELECT THIS FROM CLASS:0 WHERE NOT", OPERAND, NOT);
        for (String comparison : COMPARISONS) {
            allowed("SELECT NOT THIS " + comparison, OPERAND);
            allowed("SELECT NOT THIS " + comparison + " THIS", AFTER_COMPARED_U, FROM);
        }
    }

    private static void comparisons() {
        for (String comparison : COMPARISONS) {
            allowed("SELECT THIS " + comparison, OPERAND);
            allowed("SELECT THIS " + comparison + " THIS", AFTER_COMPARED_U, FROM);
            allowed("SELECT THIS " + comparison + " THIS TIMES", OPERAND);
            allowed("SELECT THIS " + comparison + " THIS TIMES THIS AT:1", AFTER_COMPARED_U, FROM);
            allowed("SELECT THIS " + comparison + " OPEN", OPERAND, NOT);
            allowed("SELECT THIS " + comparison + " OPEN THIS", AFTER_U, CLOSE);
            allowed("SELECT THIS " + comparison + " OPEN THIS " + comparison + " THIS", AFTER_COMPARED_U, CLOSE);
            allowed("SELECT THIS " + comparison + " OPEN THIS CLOSE", AFTER_COMPARED_U, FROM);
            allowed("SELECT OPEN THIS " + comparison + " THIS", AFTER_COMPARED_U, CLOSE);
            allowed("SELECT OPEN THIS " + comparison + " THIS CLOSE", AFTER_U, FROM);
        }
    }

    private static void arithmetic() {
        for (String tight : List.of("PLUS", "MINUS", "TIMES")) {
            allowed("SELECT THIS " + tight, OPERAND);
            allowed("SELECT THIS " + tight + " THIS", AFTER_U, FROM);
            allowed("SELECT THIS " + tight + " THIS " + tight, OPERAND);
            allowed("SELECT THIS " + tight + " OPEN", OPERAND, NOT);
        }
    }

    private static void paths() {
        allowed("SELECT NULL FIELD:3", AFTER_U, FROM);
        allowed("SELECT NUMBER:1 AT:5", AFTER_U, FROM);
        allowed("SELECT THIS FIELD:0 AT:1 FIELD:2", AFTER_U, FROM);
        allowed("SELECT OPEN THIS CLOSE AT:0", AFTER_U, FROM);
    }

    private static void units() {
        allowed("SELECT NULL", AFTER_U, FROM);
        allowed("SELECT NUMBER:1", AFTER_U, FROM);
        allowed("SELECT OPEN", OPERAND, NOT);
        allowed("SELECT OPEN THIS", AFTER_U, CLOSE);
        allowed("SELECT OPEN THIS CLOSE", AFTER_U, FROM);
        allowed("SELECT OPEN OPEN THIS", AFTER_U, CLOSE);
        allowed("SELECT OPEN OPEN THIS CLOSE", AFTER_U, CLOSE);
        allowed("SELECT OPEN OPEN THIS CLOSE CLOSE", AFTER_U, FROM);
    }

    private static void allRefused(HeapQueries x, String when) {
        int tokens = x.tokens();
        int depth = x.depth();
        for (int code = 0; code <= 24; code++) {
            Check.due(when + ", " + Check.WORDS.get(code), x.token(code, 0), false);
        }
        Check.due(when + ": tokens()", x.tokens(), tokens);
        Check.due(when + ": depth()", x.depth(), depth);
    }

    private static void fortyTokens() {
        HeapQueries open = Heaps.ofOneClass(1);
        Check.write(open, "SELECT" + " OPEN".repeat(38));
        Check.due("the 40th", Check.give(open, "OPEN"), true);
        allRefused(open, "the 41st behind OPEN");
        HeapQueries plus = Heaps.ofOneClass(1);
        Check.write(plus, "SELECT THIS" + " PLUS THIS".repeat(19));
        allRefused(plus, "the 41st behind THIS");
        HeapQueries whole = Heaps.ofOneClass(1);
        Check.write(whole, "SELECT" + " NOT".repeat(35) + " NULL FROM CLASS:0");
        Check.due("39 tokens", whole.tokens(), 39);
        Check.due("END as the 40th", Check.give(whole, "END"), true);
        allRefused(whole, "the 41st behind END");
        HeapQueries late = Heaps.ofOneClass(1);
        Check.write(late, "SELECT" + " NOT".repeat(36) + " NULL FROM CLASS:0");
        Check.due("END as the 41st", Check.give(late, "END"), false);
        Check.due("without END", late.run(), HeapQueries.INCOMPLETE);
    }

    private static void refusedDoNotCount() {
        HeapQueries x = Heaps.ofOneClass(1);
        for (int taken = 0; taken < 40; taken++) {
            for (int refused = 0; refused < 2; refused++) {
                Check.due("END", Check.give(x, "END"), false);
                Check.due("code 25", x.token(25, 0), false);
            }
            Check.due("token " + taken, Check.give(x, taken == 0 ? "SELECT" : "OPEN"), true);
            Check.due("tokens()", x.tokens(), taken + 1);
        }
        Check.due("the 41st", Check.give(x, "OPEN"), false);
    }

    private static void fortySinceClear() {
        HeapQueries x = Heaps.ofOneClass(1);
        for (int times = 0; times < 4; times++) {
            Check.write(x, "SELECT" + " NOT".repeat(39));
            Check.due("the 41st, time " + times, Check.give(x, "NOT"), false);
            x.clear();
            Check.write(x, "SELECT" + " NOT".repeat(20));
        }
    }

    private static void beginningsWithoutRoom() {
        HeapQueries x = Heaps.ofOneClass(1);
        Check.write(x, "SELECT" + " OPEN".repeat(39));
        Check.due("39 brackets that can't be closed", x.depth(), 39);
        HeapQueries nested = Heaps.ofOneClass(1);
        Check.write(nested, "SELECT THIS FROM OPEN ".repeat(9) + "SELECT THIS FROM CLASS:0");
        Check.due("nine queries that can't be closed", nested.depth(), 9);
        Check.due("run()", nested.run(), HeapQueries.INCOMPLETE);
        HeapQueries ten = Heaps.ofOneClass(1);
        Check.write(ten, "SELECT THIS FROM OPEN ".repeat(10).trim());
        Check.due("ten queries that can't be closed", ten.depth(), 10);
    }

    private static void beginningsWithoutClass() {
        HeapQueries x = new HeapQueries();
        Check.write(x, "SELECT THIS FROM OPEN SELECT OPEN THIS CLOSE FROM");
        Check.due("tokens()", x.tokens(), 9);
        Check.due("CLASS 0", Check.give(x, "CLASS:0"), false);
        Check.due("OPEN", Check.give(x, "OPEN"), true);
    }

    private static void longestTexts() {
        HeapQueries x = Heaps.ofOneClass(1);
        Check.rows(x, "SELECT" + " NOT".repeat(35) + " NULL FROM CLASS:0 END", 1, "1");
        Check.rows(x, "SELECT" + " OPEN".repeat(17) + " THIS AT:0" + " CLOSE".repeat(17) + " FROM CLASS:0 END", 1, "0");
        Check.rows(x, "SELECT DISTINCT NUMBER:3" + " PLUS NUMBER:1".repeat(17) + " FROM CLASS:0 END", 1, "20");
        Check.rows(x, "SELECT NULL" + " FIELD:0 AT:5".repeat(17) + " AT:1 FROM CLASS:0 END", 1, "n");
        Check.rows(x, "SELECT NULL FROM CLASS:0 WHERE" + " NOT".repeat(33) + " NULL END", 1, "n");
    }

    private static void answers() {
        HeapQueries x = Heaps.ofOneClass(1);
        Check.due("THIS refused", x.token(12, 0), false);
        Check.due("SELECT taken", x.token(0, 0), true);
        Check.due("SELECT refused", x.token(0, 0), false);
        Check.due("THIS taken", x.token(12, 0), true);
        Check.due("FIELD 4 refused", x.token(13, 4), false);
        Check.due("FIELD 3 taken", x.token(13, 3), true);
        Check.due("code 25 refused", x.token(25, 0), false);
        Check.due("FROM taken", x.token(3, 0), true);
        Check.due("CLASS 1 refused", x.token(8, 1), false);
        Check.due("CLASS 0 taken", x.token(8, 0), true);
        Check.due("END taken", x.token(24, 0), true);
        Check.again(x, "as it was taken", 1, "n");
    }

    private static void counts() {
        HeapQueries x = Heaps.ofOneClass(1);
        String[] tokens = "SELECT THIS FROM CLASS:0 WHERE OPEN NOT NULL CLOSE END".split(" ");
        for (int taken = 0; taken < tokens.length; taken++) {
            Check.due("tokens()", x.tokens(), taken);
            Check.give(x, tokens[taken]);
        }
        Check.due("tokens() with END", x.tokens(), 10);
        x.run();
        Check.due("tokens() after run()", x.tokens(), 10);
        x.clear();
        Check.due("tokens() after clear()", x.tokens(), 0);
        Check.give(x, "SELECT");
        Check.due("tokens() after that", x.tokens(), 1);
    }

    private static void depths() {
        HeapQueries x = Heaps.ofOneClass(1);
        String[] tokens = ("SELECT OPEN OPEN THIS CLOSE EQ OPEN NULL CLOSE CLOSE FROM OPEN SELECT THIS FROM CLASS:0"
                + " WHERE OPEN NOT THIS CLOSE CLOSE END").split(" ");
        int open = 0;
        for (String token : tokens) {
            Check.due("depth: " + token, Check.give(x, token), true);
            open += token.equals("OPEN") ? 1 : token.equals("CLOSE") ? -1 : 0;
            Check.due("depth() after " + token, x.depth(), open);
        }
        Check.write(x, "SELECT OPEN OPEN");
        x.clear();
        Check.due("depth() after clear()", x.depth(), 0);
        Check.give(x, "SELECT");
        Check.due("depth() after that", x.depth(), 0);
    }

    private static void depthAfterRefusals() {
        HeapQueries x = Heaps.ofOneClass(1);
        Check.due("OPEN at the beginning", Check.give(x, "OPEN"), false);
        Check.due("CLOSE at the beginning", Check.give(x, "CLOSE"), false);
        Check.due("depth() after both", x.depth(), 0);
        Check.write(x, "SELECT OPEN");
        Check.due("CLOSE of nothing", Check.give(x, "CLOSE"), false);
        Check.due("depth() after a refused CLOSE", x.depth(), 1);
        Check.write(x, "SELECT OPEN THIS CLOSE");
        Check.due("CLOSE too many", Check.give(x, "CLOSE"), false);
        Check.due("depth() after a CLOSE too many", x.depth(), 0);
        Check.due("OPEN refused", Check.give(x, "OPEN"), false);
        Check.due("depth() after a refused OPEN", x.depth(), 0);
    }

    private static void clearForgets() {
        HeapQueries x = Heaps.ofOneClass(1);
        Check.write(x, "SELECT THIS FROM CLASS:0 END");
        x.clear();
        Check.due("tokens()", x.tokens(), 0);
        Check.due("run()", x.run(), HeapQueries.INCOMPLETE);
        Check.due("END", Check.give(x, "END"), false);
        Check.write(x, "SELECT THIS EQ THIS FROM CLASS:0 WHERE THIS EQ OPEN THIS EQ OPEN THIS");
        Check.write(x, "SELECT THIS");
        Check.due("a comparison is forgotten", Check.give(x, "EQ"), true);
        Check.write(x, "SELECT THIS FROM OPEN SELECT THIS FROM CLASS:0 WHERE OPEN THIS");
        Check.write(x, "SELECT THIS");
        Check.due("WHERE and brackets are forgotten", Check.give(x, "END"), false);
        Check.due("WHERE and brackets are forgotten", Check.give(x, "CLOSE"), false);
        Check.due("WHERE and brackets are forgotten", Check.give(x, "FROM"), true);
    }

    private static void clearKeepsSnapshot() {
        HeapQueries x = Heaps.family();
        Check.write(x, "SELECT OPEN");
        x.clear();
        Check.due("retained(0)", x.retained(0), 165);
        Check.due("dominator(4)", x.dominator(4), 3);
        Check.rows(x, "SELECT THIS FIELD:3 FROM INSTANCEOF:1 END", 3, "8", "8", "n");
        Check.due("addClass(3)", x.addClass(3), 4);
        Check.due("addObject(4, 1)", x.addObject(4, 1), 6);
    }

    private static void clearKeepsRows() {
        HeapQueries x = Heaps.ofOneClass(3);
        x.set(0, 0, 1, 6);
        x.set(1, 0, 2, 2);
        Check.rows(x, "SELECT THIS FIELD:0 FROM CLASS:0 END", 3, "6", "@2", "n");
        x.clear();
        Check.latest(x, "after clear()", 3, "6", "@2", "n");
        x.clear();
        Check.latest(x, "after clear() twice", 3, "6", "@2", "n");
        Check.error(x, "SELECT THIS PLUS NULL FROM CLASS:0 END", 1, HeapQueries.TYPE);
        x.clear();
        Check.latest(x, "after an error and clear()", 1);
    }

    private static void clearOfNothing() {
        HeapQueries x = Heaps.ofOneClass(1);
        x.clear();
        x.clear();
        Check.due("tokens()", x.tokens(), 0);
        Check.due("depth()", x.depth(), 0);
        Check.latest(x, "nothing was run", 0);
        Check.rows(x, "SELECT THIS FROM CLASS:0 END", 1, "@0");
    }
}
