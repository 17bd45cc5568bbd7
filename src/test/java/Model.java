import java.util.ArrayList;
import java.util.Arrays;
import java.util.HashSet;
import java.util.List;
import java.util.Set;
import java.util.TreeSet;

/** The document again, written for plainness alone: sets, lists, exceptions, a method for each line of the grammar. */
final class Model {
    record Link(int object) {
    }

    private static final Object EMPTY = "null";

    private static final class QueryError extends RuntimeException {
        private static final long serialVersionUID = 1L;
        final int code;

        QueryError(int code) {
            this.code = code;
        }
    }

    private interface E {
        Object of(int self);
    }

    private interface Query {
        List<Object> rows();
    }

    private final List<Integer> parents = new ArrayList<>();
    private final List<Integer> classes = new ArrayList<>();
    private final List<Integer> sizes = new ArrayList<>();
    private final List<Object[]> fields = new ArrayList<>();
    private final Set<Integer> roots = new HashSet<>();
    private final Grammar grammar = new Grammar();
    private final List<int[]> tokens = new ArrayList<>();
    private List<Object> rows = List.of();
    private int looked;
    private int next;

    int addClass(int parent) {
        if (parents.size() == 8 || parent != -1 && !(0 <= parent && parent < parents.size())) {
            return -1;
        }
        parents.add(parent);
        return parents.size() - 1;
    }

    int addObject(int c, int size) {
        if (classes.size() == 24 || c < 0 || c >= parents.size() || size < 1 || size > 1000) {
            return -1;
        }
        classes.add(c);
        sizes.add(size);
        fields.add(new Object[] {EMPTY, EMPTY, EMPTY, EMPTY});
        return classes.size() - 1;
    }

    private boolean isObject(int object) {
        return object >= 0 && object < classes.size();
    }

    boolean set(int object, int field, int kind, int value) {
        if (!isObject(object) || field < 0 || field > 3 || kind < 0 || kind > 2 || kind == 2 && !isObject(value)) {
            return false;
        }
        fields.get(object)[field] = kind == 0 ? EMPTY : kind == 1 ? (Object) value : new Link(value);
        return true;
    }

    boolean setRoot(int object, boolean root) {
        if (!isObject(object)) {
            return false;
        }
        if (root) {
            roots.add(object);
        } else {
            roots.remove(object);
        }
        return true;
    }

    private Set<Integer> reachableWithout(Set<Integer> gone) {
        Set<Integer> found = new TreeSet<>(roots);
        found.removeAll(gone);
        boolean grew = true;
        while (grew) {
            Set<Integer> more = new HashSet<>();
            for (int object : found) {
                for (Object value : fields.get(object)) {
                    if (value instanceof Link link && !gone.contains(link.object)) {
                        more.add(link.object);
                    }
                }
            }
            grew = found.addAll(more);
        }
        return found;
    }

    private Set<Integer> retainedBy(Set<Integer> objects) {
        Set<Integer> kept = reachableWithout(Set.of());
        kept.removeAll(reachableWithout(objects));
        return kept;
    }

    private boolean dominates(int d, int o) {
        return d != o && retainedBy(Set.of(d)).contains(o);
    }

    int dominator(int object) {
        if (!isObject(object)) {
            return -2;
        }
        List<Integer> all = new ArrayList<>();
        for (int d = 0; d < classes.size(); d++) {
            if (dominates(d, object)) {
                all.add(d);
            }
        }
        for (int d : all) {
            if (all.stream().allMatch(other -> other == d || dominates(other, d))) {
                return d;
            }
        }
        return -1;
    }

    int retained(int object) {
        return isObject(object) ? retainedBy(Set.of(object)).stream().mapToInt(sizes::get).sum() : -1;
    }

    boolean token(int code, int n) {
        if (code < 0 || code > 24 || tokens.size() == 40) {
            return false;
        }
        int limit = code == 8 || code == 9 ? parents.size() : code == 13 ? 4 : code == 14 ? 6 : -1;
        if (limit >= 0 && (n < 0 || n >= limit) || !grammar.take(Check.WORDS.get(code))) {
            return false;
        }
        tokens.add(new int[] {code, n});
        return true;
    }

    int tokens() {
        return tokens.size();
    }

    int depth() {
        int open = 0;
        for (int[] token : tokens) {
            open += token[0] == 6 ? 1 : token[0] == 7 ? -1 : 0;
        }
        return open;
    }

    void clear() {
        tokens.clear();
        grammar.forget();
    }

    int run() {
        if (tokens.isEmpty() || tokens.get(tokens.size() - 1)[0] != 24) {
            return -1;
        }
        looked = 0;
        rows = List.of();
        next = 0;
        try {
            rows = query().rows();
            return rows.size();
        } catch (QueryError error) {
            return error.code;
        }
    }

    int rows() {
        return rows.size();
    }

    int kind(int i) {
        if (i < 0 || i >= rows.size()) {
            return -1;
        }
        return rows.get(i) instanceof Integer ? 1 : rows.get(i) instanceof Link ? 2 : 0;
    }

    int value(int i) {
        if (i < 0 || i >= rows.size()) {
            return 0;
        }
        return rows.get(i) instanceof Integer n ? n : rows.get(i) instanceof Link link ? link.object : 0;
    }

    int looked() {
        return looked;
    }

    // Reading: a method for each line of the grammar.

    private String peek() {
        return Check.WORDS.get(tokens.get(next)[0]);
    }

    private int step() {
        return tokens.get(next++)[1];
    }

    private boolean ate(String word) {
        boolean is = peek().equals(word);
        if (is) {
            next++;
        }
        return is;
    }

    private Query query() {
        List<Query> selects = new ArrayList<>();
        do {
            selects.add(select());
        } while (ate("UNION"));
        return () -> {
            List<Object> all = new ArrayList<>();
            selects.forEach(select -> all.addAll(select.rows()));
            return all;
        };
    }

    private Query select() {
        next++;
        boolean isDistinct = ate("DISTINCT");
        boolean isRetained = ate("RETAINED");
        E row = e();
        next++;
        Query source = source();
        E where = ate("WHERE") ? e() : null;
        return () -> {
            List<Object> found = new ArrayList<>();
            for (Object link : source.rows()) {
                int self = ((Link) link).object;
                looked++;
                if (where == null || holds(where.of(self))) {
                    found.add(row.of(self));
                }
            }
            if (isRetained) {
                Set<Integer> linked = new HashSet<>();
                onlyLinks(found).forEach(link -> linked.add(((Link) link).object));
                return retainedBy(linked).stream().map(o -> (Object) new Link(o)).toList();
            }
            return isDistinct ? found.stream().distinct().toList() : found;
        };
    }

    private Query source() {
        if (ate("OPEN")) {
            Query inner = query();
            next++;
            return () -> onlyLinks(inner.rows());
        }
        boolean below = peek().equals("INSTANCEOF");
        int c = step();
        return () -> {
            List<Object> found = new ArrayList<>();
            for (int object = 0; object < classes.size(); object++) {
                if (classes.get(object) == c || below && ancestors(classes.get(object)).contains(c)) {
                    found.add(new Link(object));
                }
            }
            return found;
        };
    }

    private Set<Integer> ancestors(int c) {
        Set<Integer> found = new HashSet<>();
        if (parents.get(c) != -1) {
            found.add(parents.get(c));
            found.addAll(ancestors(parents.get(c)));
        }
        return found;
    }

    private static List<Object> onlyLinks(List<Object> values) {
        if (values.stream().anyMatch(Integer.class::isInstance)) {
            throw new QueryError(-4);
        }
        return values.stream().filter(Link.class::isInstance).toList();
    }

    private static boolean holds(Object value) {
        if (value instanceof Link) {
            throw new QueryError(-3);
        }
        return value instanceof Integer n && n != 0;
    }

    private E e() {
        E left = a();
        while (ate("OR")) {
            E x = left;
            E y = a();
            left = self -> holds(x.of(self)) || holds(y.of(self)) ? 1 : 0;
        }
        return left;
    }

    private E a() {
        E left = b();
        while (ate("AND")) {
            E x = left;
            E y = b();
            left = self -> holds(x.of(self)) && holds(y.of(self)) ? 1 : 0;
        }
        return left;
    }

    private E b() {
        if (ate("NOT")) {
            E x = b();
            return self -> holds(x.of(self)) ? 0 : 1;
        }
        return c();
    }

    private E c() {
        E x = s();
        String operator = peek();
        if (!Set.of("EQ", "NE", "LESS").contains(operator)) {
            return x;
        }
        next++;
        E y = s();
        return self -> {
            Object left = x.of(self);
            Object right = y.of(self);
            if (operator.equals("LESS")) {
                return hasEmpty(left, right) ? 0 : (Integer) left < (Integer) right ? 1 : 0;
            }
            return left.equals(right) == operator.equals("EQ") ? 1 : 0;
        };
    }

    private static boolean hasEmpty(Object left, Object right) {
        if (left instanceof Link || right instanceof Link) {
            throw new QueryError(-3);
        }
        return left == EMPTY || right == EMPTY;
    }

    private E s() {
        E left = p();
        while (peek().equals("PLUS") || peek().equals("MINUS")) {
            int sign = ate("PLUS") ? 1 : -1;
            if (sign < 0) {
                next++;
            }
            E x = left;
            E y = p();
            left = self -> {
                Object u = x.of(self);
                Object v = y.of(self);
                return hasEmpty(u, v) ? EMPTY : (Object) ((Integer) u + sign * (Integer) v);
            };
        }
        return left;
    }

    private E p() {
        E left = m();
        while (ate("TIMES")) {
            E x = left;
            E y = m();
            left = self -> {
                Object u = x.of(self);
                Object v = y.of(self);
                return hasEmpty(u, v) ? EMPTY : (Object) ((Integer) u * (Integer) v);
            };
        }
        return left;
    }

    private E m() {
        E made = u();
        while (peek().equals("FIELD") || peek().equals("AT")) {
            boolean isField = peek().equals("FIELD");
            int k = step();
            E x = made;
            made = self -> {
                Object of = x.of(self);
                if (of instanceof Integer) {
                    throw new QueryError(-2);
                }
                if (!(of instanceof Link link)) {
                    return EMPTY;
                }
                return isField ? fields.get(link.object)[k] : fact(link, k);
            };
        }
        return made;
    }

    private Object fact(Link link, int k) {
        switch (k) {
            case 0:
                return link.object;
            case 1:
                return classes.get(link.object);
            case 2:
                return sizes.get(link.object);
            case 3:
                return retained(link.object);
            case 4:
                int d = dominator(link.object);
                return d == -1 ? EMPTY : new Link(d);
            default:
                return (int) fields.stream().flatMap(Arrays::stream).filter(link::equals).count();
        }
    }

    private E u() {
        if (ate("OPEN")) {
            E inner = e();
            next++;
            return inner;
        }
        String word = peek();
        int n = step();
        return self -> word.equals("NUMBER") ? (Object) n : word.equals("THIS") ? new Link(self) : EMPTY;
    }
}
