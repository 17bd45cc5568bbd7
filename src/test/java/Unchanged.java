import java.util.List;
import java.util.function.Function;
import java.util.function.Supplier;

/**
 * Looks whether a call changes anything: two objects are made alike, the call is made on one of them, and then both
 * are asked for all that calls can tell. As asking changes an object, each of the views has two objects of its own.
 */
final class Unchanged {
    private static final List<Function<HeapQueries, String>> VIEWS = List.of(
            Unchanged::latestRun, Unchanged::nextTokens, Unchanged::nextTokensFromBehind, Unchanged::graph,
            x -> classes(x, "CLASS"), x -> classes(x, "INSTANCEOF"),
            x -> each(x, "FIELD:0"), x -> each(x, "FIELD:1"), x -> each(x, "FIELD:2"), x -> each(x, "FIELD:3"),
            x -> each(x, "AT:1"), x -> each(x, "AT:2"), x -> each(x, "AT:5"),
            Unchanged::room, Unchanged::graphWhenFull, Unchanged::fieldsWhenFull);

    private Unchanged() {
    }

    /** The call must give the answer that is due, and no view may tell that it was made. */
    static void by(String call, Supplier<HeapQueries> maker, Function<HeapQueries, Object> made, Object answer) {
        for (Function<HeapQueries, String> view : VIEWS) {
            HeapQueries with = maker.get();
            Check.due(call, made.apply(with), answer);
            Check.due(call + ", and then", view.apply(with), view.apply(maker.get()));
        }
    }

    /** Whether some view tells that the call was made. */
    static boolean isSeen(Supplier<HeapQueries> maker, Function<HeapQueries, Object> made) {
        for (Function<HeapQueries, String> view : VIEWS) {
            HeapQueries with = maker.get();
            made.apply(with);
            if (!view.apply(with).equals(view.apply(maker.get()))) {
                return true;
            }
        }
        return false;
    }

    private static String latestRun(HeapQueries x) {
        String before = "tokens " + x.tokens() + ", depth " + x.depth() + ", " + rows(x);
        return before + ", run " + x.run() + ", " + rows(x) + ", tokens " + x.tokens();
    }

    private static String rows(HeapQueries x) {
        StringBuilder told = new StringBuilder("looked " + x.looked() + ", rows " + x.rows() + ":");
        for (int i = -1; i <= x.rows(); i++) {
            told.append(' ').append(Check.row(x, i));
        }
        return told.toString();
    }

    /** Which tokens are taken when all codes are given in their order, over and over. */
    private static String nextTokens(HeapQueries x) {
        StringBuilder told = new StringBuilder();
        for (int i = 0; i < 100; i++) {
            told.append(x.token(i % 25, 0) ? Check.WORDS.get(i % 25) + " " : "");
        }
        return told + latestRun(x);
    }

    private static String nextTokensFromBehind(HeapQueries x) {
        StringBuilder told = new StringBuilder();
        for (int i = 99; i >= 0; i--) {
            told.append(x.token(i % 25, 0) ? Check.WORDS.get(i % 25) + " " : "");
        }
        return told + latestRun(x);
    }

    private static String graph(HeapQueries x) {
        StringBuilder told = new StringBuilder();
        for (int object = -1; object <= 24; object++) {
            told.append(x.dominator(object)).append('/').append(x.retained(object)).append(' ');
        }
        return told.toString();
    }

    /** The objects that a source gives, for every class. */
    private static String classes(HeapQueries x, String source) {
        StringBuilder told = new StringBuilder();
        for (int c = 0; c <= 8; c++) {
            told.append(ask(x, "SELECT THIS AT:0", source + ":" + c)).append("; ");
        }
        return told.toString();
    }

    /** A field or fact of every object. */
    private static String each(HeapQueries x, String step) {
        StringBuilder told = new StringBuilder();
        for (int c = 0; c < 8; c++) {
            told.append(ask(x, "SELECT THIS " + step, "CLASS:" + c)).append("; ");
        }
        return told.toString();
    }

    private static String ask(HeapQueries x, String select, String source) {
        x.clear();
        for (String token : (select + " FROM " + source + " END").split(" ")) {
            if (!Check.give(x, token)) {
                return token + " is refused";
            }
        }
        StringBuilder told = new StringBuilder(select + " FROM " + source + ":");
        int rows = x.run();
        for (int i = 0; i < rows; i++) {
            told.append(' ').append(x.value(i));
            // Kinds are asked for where they can differ, so that 512 calls are enough.
            told.append(select.contains("FIELD") ? "/" + x.kind(i) : "");
        }
        return told.toString();
    }

    /** The numbers of the classes and objects that can still be made. */
    private static String room(HeapQueries x) {
        StringBuilder told = new StringBuilder();
        for (int i = 0; i < 9; i++) {
            told.append(x.addClass(HeapQueries.NONE)).append(' ');
        }
        for (int i = 0; i < 25; i++) {
            told.append(x.addObject(0, 1)).append(' ');
        }
        return told.toString();
    }

    private static String graphWhenFull(HeapQueries x) {
        return room(x) + graph(x);
    }

    private static String fieldsWhenFull(HeapQueries x) {
        return room(x) + ask(x, "SELECT THIS FIELD:0", "CLASS:0") + ask(x, "SELECT THIS FIELD:1", "CLASS:0")
                + ask(x, "SELECT THIS FIELD:2", "CLASS:0") + ask(x, "SELECT THIS FIELD:3", "CLASS:0");
    }
}
