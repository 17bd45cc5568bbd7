import java.util.ArrayList;
import java.util.LinkedHashSet;
import java.util.List;
import java.util.Set;

/**
 * The grammar as the document writes it, read by Earley's way: it knows nothing of places, brackets or levels. As
 * every rule can be carried on to its end, tokens are the beginning of a text when there is an item behind them.
 */
final class Grammar {
    private static final String[] RULES = {
        "text = query END", "query = select", "query = query UNION select",
        "select = head from", "select = head from WHERE e", "from = FROM source",
        "head = SELECT e", "head = SELECT DISTINCT e", "head = SELECT RETAINED e", "head = SELECT DISTINCT RETAINED e",
        "source = CLASS", "source = INSTANCEOF", "source = OPEN query CLOSE",
        "e = a", "e = e OR a", "a = b", "a = a AND b", "b = NOT b", "b = c",
        "c = s", "c = s EQ s", "c = s NE s", "c = s LESS s",
        "s = p", "s = s PLUS p", "s = s MINUS p", "p = m", "p = p TIMES m",
        "m = u", "m = m FIELD", "m = m AT",
        "u = NUMBER", "u = NULL", "u = THIS", "u = OPEN e CLOSE"};

    private record Item(int rule, int dot, int start) {
    }

    private final String[][] rules = new String[RULES.length][];
    private final List<Set<Item>> sets = new ArrayList<>();

    Grammar() {
        for (int i = 0; i < RULES.length; i++) {
            rules[i] = RULES[i].replace("= ", "").split(" ");
        }
        forget();
    }

    void forget() {
        sets.clear();
        sets.add(closed(new LinkedHashSet<>(Set.of(new Item(0, 1, 0)))));
    }

    /** Takes a word if the words taken followed by it are a text or the beginning of one. */
    boolean take(String word) {
        Set<Item> next = new LinkedHashSet<>();
        for (Item item : sets.get(sets.size() - 1)) {
            if (word.equals(wanted(item))) {
                next.add(new Item(item.rule, item.dot + 1, item.start));
            }
        }
        if (next.isEmpty()) {
            return false;
        }
        sets.add(closed(next));
        return true;
    }

    private String wanted(Item item) {
        String[] rule = rules[item.rule];
        return item.dot < rule.length ? rule[item.dot] : "";
    }

    private Set<Item> closed(Set<Item> items) {
        List<Item> waiting = new ArrayList<>(items);
        for (int i = 0; i < waiting.size(); i++) {
            Item item = waiting.get(i);
            String wanted = wanted(item);
            List<Item> more = new ArrayList<>();
            if (wanted.isEmpty()) {
                Set<Item> before = sets.get(item.start);
                for (Item parent : before) {
                    if (wanted(parent).equals(rules[item.rule][0])) {
                        more.add(new Item(parent.rule, parent.dot + 1, parent.start));
                    }
                }
            } else {
                for (int rule = 0; rule < rules.length; rule++) {
                    if (rules[rule][0].equals(wanted)) {
                        more.add(new Item(rule, 1, sets.size()));
                    }
                }
            }
            for (Item found : more) {
                if (items.add(found)) {
                    waiting.add(found);
                }
            }
        }
        return items;
    }
}
