import java.util.List;

/** Compares answers with those that are due, and writes queries as words. */
final class Check {
    static final int MIN = Integer.MIN_VALUE;
    static final int MAX = Integer.MAX_VALUE;

    static final List<String> WORDS = List.of(
            "SELECT", "DISTINCT", "RETAINED", "FROM", "WHERE", "UNION", "OPEN", "CLOSE", "CLASS", "INSTANCEOF",
            "NUMBER", "NULL", "THIS", "FIELD", "AT", "OR", "AND", "NOT", "EQ", "NE", "LESS", "PLUS", "MINUS",
            "TIMES", "END");

    private static String sentence = "";
    private static int sentences = 0;
    private static int wrong = 0;

    private Check() {
    }

    /** Runs the test of one sentence of the document, whose words are printed with each answer that is not as due. */
    static void sentence(String words, Runnable test) {
        sentence = "'" + words + "': ";
        sentences++;
        test.run();
        sentence = "";
    }

    static void due(String call, Object got, Object want) {
        if (!got.equals(want)) {
            wrong++;
            System.out.println(sentence + call + " answered " + got + ", due is " + want);
        }
    }

    static void end() {
        String tested = sentences == 0 ? "" : sentences + " sentences, ";
        System.out.println(tested + (wrong == 0 ? "all answers are as due" : wrong + " answers are not as due"));
        if (wrong != 0) {
            System.exit(1);
        }
    }

    /** Gives one token, written as its word, or as its word and its number: AT:3. */
    static boolean give(HeapQueries queries, String token) {
        String[] parts = token.split(":");
        return queries.token(WORDS.indexOf(parts[0]), parts.length > 1 ? Integer.parseInt(parts[1]) : 77);
    }

    /** Clears, then gives the tokens, all of which must be taken. */
    static void write(HeapQueries queries, String text) {
        queries.clear();
        int given = 0;
        for (String token : text.split(" ")) {
            due(text + ": token " + given + " " + token, give(queries, token), true);
            given++;
        }
        due(text + ": tokens()", queries.tokens(), given);
    }

    /** Runs a text and compares the rows, written as n for null, numbers, and links as @object. */
    static void rows(HeapQueries queries, String text, int looked, String... want) {
        write(queries, text);
        again(queries, text, looked, want);
    }

    /** Runs the tokens that are there and compares the rows. */
    static void again(HeapQueries queries, String text, int looked, String... want) {
        due(text + ": run()", queries.run(), want.length);
        latest(queries, text, looked, want);
    }

    /** Compares the rows of the latest run. */
    static void latest(HeapQueries queries, String text, int looked, String... want) {
        due(text + ": rows()", queries.rows(), want.length);
        due(text + ": looked()", queries.looked(), looked);
        for (int i = 0; i < want.length; i++) {
            due(text + ": row " + i, row(queries, i), want[i]);
        }
        noRow(queries, text, -1);
        noRow(queries, text, want.length);
    }

    /** Runs a text that must end with an error. */
    static void error(HeapQueries queries, String text, int looked, int error) {
        write(queries, text);
        due(text + ": run()", queries.run(), error);
        latest(queries, text, looked);
    }

    static void noRow(HeapQueries queries, String text, int i) {
        due(text + ": kind(" + i + ")", queries.kind(i), HeapQueries.NONE);
        due(text + ": value(" + i + ")", queries.value(i), 0);
    }

    static String row(HeapQueries queries, int i) {
        int value = queries.value(i);
        switch (queries.kind(i)) {
            case 0:
                return value == 0 ? "n" : "null with value " + value;
            case 1:
                return Integer.toString(value);
            case 2:
                return "@" + value;
            default:
                return "no row";
        }
    }
}
