import java.util.List;

/** Compares answers with those that are due, and writes queries as words. */
final class Check {
    static final List<String> WORDS = List.of(
            "SELECT", "DISTINCT", "RETAINED", "FROM", "WHERE", "UNION", "OPEN", "CLOSE", "CLASS", "INSTANCEOF",
            "NUMBER", "NULL", "THIS", "FIELD", "AT", "OR", "AND", "NOT", "EQ", "NE", "LESS", "PLUS", "MINUS",
            "TIMES", "END");

    private static int wrong = 0;

    private Check() {
    }

    static void due(String call, Object got, Object want) {
        if (!got.equals(want)) {
            wrong++;
            System.out.println(call + " answered " + got + ", due is " + want);
        }
    }

    static void end() {
        System.out.println(wrong == 0 ? "all answers are as due" : wrong + " answers are not as due");
        if (wrong != 0) {
            System.exit(1);
        }
    }

    /** Gives one token, written as its word, or as its word and its number: AT:3. */
    static boolean give(HeapQueries queries, String token) {
        String[] parts = token.split(":");
        return queries.token(WORDS.indexOf(parts[0]), parts.length > 1 ? Integer.parseInt(parts[1]) : 77);
    }

    /** Clears, then gives the tokens, all of which must be taken. */
    static void write(HeapQueries queries, String text) {
        queries.clear();
        int given = 0;
        for (String token : text.split(" ")) {
            due(text + ": token " + given + " " + token, give(queries, token), true);
            given++;
        }
        due(text + ": tokens()", queries.tokens(), given);
    }

    /** Runs a text and compares the rows, written as n for null, numbers, and links as @object. */
    static void rows(HeapQueries queries, String text, int looked, String... want) {
        write(queries, text);
        again(queries, text, looked, want);
    }

    /** Runs the tokens that are there and compares the rows. */
    static void again(HeapQueries queries, String text, int looked, String... want) {
        due(text + ": run()", queries.run(), want.length);
        due(text + ": rows()", queries.rows(), want.length);
        due(text + ": looked()", queries.looked(), looked);
        for (int i = 0; i < want.length; i++) {
            due(text + ": row " + i, row(queries, i), want[i]);
        }
        noRow(queries, text, -1);
        noRow(queries, text, want.length);
    }

    /** Runs a text that must end with an error. */
    static void error(HeapQueries queries, String text, int looked, int error) {
        write(queries, text);
        due(text + ": run()", queries.run(), error);
        due(text + ": rows()", queries.rows(), 0);
        due(text + ": looked()", queries.looked(), looked);
        noRow(queries, text, 0);
    }

    static void noRow(HeapQueries queries, String text, int i) {
        due(text + ": kind(" + i + ")", queries.kind(i), HeapQueries.NONE);
        due(text + ": value(" + i + ")", queries.value(i), 0);
    }

    static String row(HeapQueries queries, int i) {
        switch (queries.kind(i)) {
            case 0:
                return queries.value(i) == 0 ? "n" : "null with value " + queries.value(i);
            case 1:
                return Integer.toString(queries.value(i));
            case 2:
                return "@" + queries.value(i);
            default:
                return "no row";
        }
    }
}
