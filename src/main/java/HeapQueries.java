/** A snapshot of a heap, and a language of queries over it that is read token by token. */
public final class HeapQueries {
    public static final int NONE = -1;
    public static final int INCOMPLETE = -1;
    public static final int PATH = -2;
    public static final int TYPE = -3;
    public static final int OBJECTS = -4;

    private static final int NO_ERROR = 0;
    private static final int NO_SUCH_OBJECT = -2;

    private static final int MAX_CLASSES = 8;
    private static final int MAX_OBJECTS = 24;
    private static final int MAX_SIZE = 1000;
    private static final int FIELDS = 4;
    private static final int FACTS = 6;
    private static final int MAX_TOKENS = 40;

    // A select has four tokens of its own, and a fifth (a UNION, or the second bracket of a nested query) ties it
    // to the others, so that eight selects and END fill a text.
    private static final int MAX_SELECTS = 8;

    // A select over a class and a RETAINED one give at most one row for each object of the snapshot; any other
    // select gives no more rows than its source.
    private static final int MAX_ROWS = MAX_SELECTS * MAX_OBJECTS;

    private static final int SELECT = 0;
    private static final int DISTINCT = 1;
    private static final int RETAINED = 2;
    private static final int FROM = 3;
    private static final int WHERE = 4;
    private static final int UNION = 5;
    private static final int OPEN = 6;
    private static final int CLOSE = 7;
    private static final int CLASS = 8;
    private static final int INSTANCEOF = 9;
    private static final int NUMBER = 10;
    private static final int NULL = 11;
    private static final int THIS = 12;
    private static final int FIELD = 13;
    private static final int AT = 14;
    private static final int OR = 15;
    private static final int AND = 16;
    private static final int NOT = 17;
    private static final int EQ = 18;
    private static final int NE = 19;
    private static final int LESS = 20;
    private static final int PLUS = 21;
    private static final int MINUS = 22;
    private static final int TIMES = 23;
    private static final int END = 24;

    private final Heap heap;
    private final Text text;
    private final Worker worker;

    // The query of the text, read when its END is taken; null as long as the text is incomplete.
    private Select query;

    public HeapQueries() {
        heap = new Heap();
        text = new Text();
        worker = new Worker();
    }

    public int addClass(int parent) {
        return heap.makeClass(parent);
    }

    public int addObject(int c, int size) {
        return heap.makeObject(c, size);
    }

    public boolean set(int object, int field, int kind, int value) {
        if (!heap.hasObject(object) || field < 0 || field >= FIELDS) {
            return false;
        }
        switch (kind) {
            case Value.EMPTY_KIND:
                heap.putField(object, field, Value.EMPTY);
                return true;
            case Value.NUMBER_KIND:
                heap.putField(object, field, Value.number(value));
                return true;
            case Value.LINK_KIND:
                if (!heap.hasObject(value)) {
                    return false;
                }
                heap.putField(object, field, Value.link(value));
                return true;
            default:
                return false;
        }
    }

    public boolean setRoot(int object, boolean root) {
        if (!heap.hasObject(object)) {
            return false;
        }
        heap.markRoot(object, root);
        return true;
    }

    public int dominator(int object) {
        if (!heap.hasObject(object)) {
            return NO_SUCH_OBJECT;
        }
        heap.refreshSurvey();
        return heap.survey.immediateDominatorOf(object);
    }

    public int retained(int object) {
        if (!heap.hasObject(object)) {
            return NONE;
        }
        heap.refreshSurvey();
        return heap.survey.retainedSizeOf(object);
    }

    public boolean token(int code, int n) {
        if (!isNumberAllowed(code, n) || !text.take(code, n)) {
            return false;
        }
        if (code == END) {
            query = new Reader(text).readQuery(0);
        }
        return true;
    }

    private boolean isNumberAllowed(int code, int n) {
        switch (code) {
            case CLASS:
            case INSTANCEOF:
                return heap.hasClass(n);
            case FIELD:
                return n >= 0 && n < FIELDS;
            case AT:
                return n >= 0 && n < FACTS;
            default:
                return true;
        }
    }

    public int tokens() {
        return text.length();
    }

    public int depth() {
        return text.openBrackets();
    }

    public void clear() {
        text.forget();
        query = null;
    }

    public int run() {
        if (query == null) {
            return INCOMPLETE;
        }
        heap.refreshSurvey();
        worker.begin();
        int error = worker.addQuery(heap, query, 0);
        if (error != NO_ERROR) {
            worker.dropRows();
            return error;
        }
        return worker.rowCount();
    }

    public int rows() {
        return worker.rowCount();
    }

    public int kind(int i) {
        return worker.hasRow(i) ? Value.kindOf(worker.row(i)) : NONE;
    }

    public int value(int i) {
        return worker.hasRow(i) ? Value.contentOf(worker.row(i)) : 0;
    }

    public int looked() {
        return worker.lookCount();
    }

    /**
     * A value, or an error in place of one, is a long: its kind in the upper half, the number, the object or the
     * error in the lower half. So working out a query makes no objects, and equal values are equal longs.
     */
    private static final class Value {
        static final int EMPTY_KIND = 0;
        static final int NUMBER_KIND = 1;
        static final int LINK_KIND = 2;
        static final int ERROR_KIND = 3;

        static final long EMPTY = 0L;

        private static final int HALF = 32;
        private static final long LOWER_HALF = 0xFFFFFFFFL;
        private static final long NUMBER_BITS = (long) NUMBER_KIND << HALF;
        private static final long LINK_BITS = (long) LINK_KIND << HALF;
        private static final long ERROR_BITS = (long) ERROR_KIND << HALF;

        static final long ZERO = NUMBER_BITS;
        static final long ONE = NUMBER_BITS | 1L;

        static long number(int n) {
            return NUMBER_BITS | n & LOWER_HALF;
        }

        static long link(int object) {
            return LINK_BITS | object & LOWER_HALF;
        }

        static long error(int error) {
            return ERROR_BITS | error & LOWER_HALF;
        }

        static long flag(boolean holds) {
            return holds ? ONE : ZERO;
        }

        static int kindOf(long value) {
            return (int) (value >>> HALF);
        }

        static int contentOf(long value) {
            return (int) value;
        }

        static boolean isEmpty(long value) {
            return value == EMPTY;
        }

        static boolean isNumber(long value) {
            return value >>> HALF == NUMBER_KIND;
        }

        static boolean isLink(long value) {
            return value >>> HALF == LINK_KIND;
        }

        static boolean isError(long value) {
            return value >>> HALF == ERROR_KIND;
        }

        /** 1 or 0 as conditions take the value, the error TYPE for a link; an error stays what it is. */
        static long truthOf(long value) {
            if (isError(value)) {
                return value;
            }
            if (isLink(value)) {
                return error(TYPE);
            }
            return flag(value != EMPTY && value != ZERO);
        }
    }

    /** The classes and objects of the snapshot. Sets of objects are masks with a bit for each object. */
    private static final class Heap {
        private final int[] parents = new int[MAX_CLASSES];
        private int classCount;

        private final int[] classes = new int[MAX_OBJECTS];
        private final int[] sizes = new int[MAX_OBJECTS];
        private final long[] fields = new long[MAX_OBJECTS * FIELDS];
        private int objectCount;
        private int roots;

        // As it was when it was taken: refreshSurvey comes before any look at it.
        final Survey survey = new Survey();
        private boolean changed;

        int makeClass(int parent) {
            if (classCount >= MAX_CLASSES || parent != NONE && !hasClass(parent)) {
                return NONE;
            }
            parents[classCount] = parent;
            classCount++;
            return classCount - 1;
        }

        int makeObject(int c, int size) {
            if (objectCount >= MAX_OBJECTS || !hasClass(c) || size < 1 || size > MAX_SIZE) {
                return NONE;
            }
            classes[objectCount] = c;
            sizes[objectCount] = size;
            objectCount++;
            changed = true;
            return objectCount - 1;
        }

        void putField(int object, int field, long value) {
            fields[object * FIELDS + field] = value;
            changed = true;
        }

        void markRoot(int object, boolean root) {
            int bit = 1 << object;
            roots = root ? roots | bit : roots & ~bit;
            changed = true;
        }

        boolean hasClass(int c) {
            return c >= 0 && c < classCount;
        }

        boolean hasObject(int object) {
            return object >= 0 && object < objectCount;
        }

        int size() {
            return objectCount;
        }

        int roots() {
            return roots;
        }

        int classOf(int object) {
            return classes[object];
        }

        int sizeOf(int object) {
            return sizes[object];
        }

        long fieldOf(int object, int field) {
            return fields[object * FIELDS + field];
        }

        boolean isInstance(int object, int c) {
            int ancestor = classes[object];
            for (int step = 0; step < MAX_CLASSES && ancestor != NONE; step++) {
                if (ancestor == c) {
                    return true;
                }
                ancestor = parents[ancestor];
            }
            return false;
        }

        void refreshSurvey() {
            if (changed) {
                survey.takeOf(this);
                changed = false;
            }
        }
    }

    /** What is reachable, retained and dominated in a heap. */
    private static final class Survey {
        private final int[] linkedFrom = new int[MAX_OBJECTS];
        private final int[] linkCounts = new int[MAX_OBJECTS];
        private final int[] retainedSets = new int[MAX_OBJECTS];
        private final int[] retainedSizes = new int[MAX_OBJECTS];
        private final int[] dominators = new int[MAX_OBJECTS];
        private final int[] immediateDominators = new int[MAX_OBJECTS];
        private int objectCount;
        private int roots;
        private int reachable;

        void takeOf(Heap heap) {
            objectCount = heap.size();
            roots = heap.roots();
            findLinks(heap);
            reachable = reachableWithout(0);
            for (int object = 0; object < objectCount; object++) {
                retainedSets[object] = retainedBy(1 << object);
                retainedSizes[object] = sizeOfSet(heap, retainedSets[object]);
            }
            for (int object = 0; object < objectCount; object++) {
                dominators[object] = findDominators(object);
            }
            for (int object = 0; object < objectCount; object++) {
                immediateDominators[object] = findImmediateDominator(object);
            }
        }

        int retainedSizeOf(int object) {
            return retainedSizes[object];
        }

        int linkCountOf(int object) {
            return linkCounts[object];
        }

        int immediateDominatorOf(int object) {
            return immediateDominators[object];
        }

        /** The set retained by a set of objects. */
        int retainedBy(int objects) {
            return reachable & ~reachableWithout(objects);
        }

        private void findLinks(Heap heap) {
            for (int object = 0; object < objectCount; object++) {
                linkedFrom[object] = 0;
                linkCounts[object] = 0;
            }
            for (int object = 0; object < objectCount; object++) {
                for (int field = 0; field < FIELDS; field++) {
                    long value = heap.fieldOf(object, field);
                    if (Value.isLink(value)) {
                        int target = Value.contentOf(value);
                        linkedFrom[object] |= 1 << target;
                        linkCounts[target]++;
                    }
                }
            }
        }

        private int reachableWithout(int gone) {
            int found = roots & ~gone;
            int waiting = found;
            // Every step takes one object out of the waiting ones, and none waits twice.
            for (int step = 0; step < MAX_OBJECTS && waiting != 0; step++) {
                int object = Integer.numberOfTrailingZeros(waiting);
                int fresh = linkedFrom[object] & ~gone & ~found;
                found |= fresh;
                waiting = waiting & ~(1 << object) | fresh;
            }
            return found;
        }

        private int sizeOfSet(Heap heap, int objects) {
            int sum = 0;
            for (int object = 0; object < objectCount; object++) {
                if ((objects & 1 << object) != 0) {
                    sum += heap.sizeOf(object);
                }
            }
            return sum;
        }

        private int findDominators(int object) {
            int found = 0;
            for (int other = 0; other < objectCount; other++) {
                if (other != object && (retainedSets[other] & 1 << object) != 0) {
                    found |= 1 << other;
                }
            }
            return found;
        }

        private int findImmediateDominator(int object) {
            int all = dominators[object];
            for (int candidate = 0; candidate < objectCount; candidate++) {
                int others = all & ~(1 << candidate);
                if (others != all && (others & ~dominators[candidate]) == 0) {
                    return candidate;
                }
            }
            return NONE;
        }
    }

    /** The tokens taken, and the place in the grammar that they lead to. */
    private static final class Text {
        private static final int REFUSED = -1;
        private static final int BEFORE_SELECT = 0;
        private static final int AFTER_SELECT = 1;
        private static final int AFTER_DISTINCT = 2;
        private static final int BEFORE_E = 3;
        private static final int BEFORE_S = 4;
        private static final int AFTER_U = 5;
        private static final int BEFORE_SOURCE = 6;
        private static final int AFTER_SOURCE = 7;
        private static final int AFTER_END = 8;

        // What an OPEN that waits for its CLOSE stands for; of an e also whether the c around it has its comparison.
        private static final int QUERY_BRACKET = 0;
        private static final int E_BRACKET = 1;
        private static final int COMPARED_E_BRACKET = 2;

        private final int[] codes = new int[MAX_TOKENS];
        private final int[] numbers = new int[MAX_TOKENS];
        private int count;

        private final int[] brackets = new int[MAX_TOKENS];
        private int bracketCount;
        private int place = BEFORE_SELECT;
        private boolean inWhere;
        private boolean compared;

        int length() {
            return count;
        }

        int openBrackets() {
            return bracketCount;
        }

        int codeAt(int i) {
            return i >= 0 && i < count ? codes[i] : END;
        }

        int numberAt(int i) {
            return i >= 0 && i < count ? numbers[i] : 0;
        }

        void forget() {
            count = 0;
            bracketCount = 0;
            place = BEFORE_SELECT;
        }

        boolean take(int code, int n) {
            int next = placeAfter(code);
            if (count >= MAX_TOKENS || next == REFUSED) {
                return false;
            }
            codes[count] = code;
            numbers[count] = n;
            count++;
            remember(code);
            place = next;
            return true;
        }

        private int placeAfter(int code) {
            switch (place) {
                case BEFORE_SELECT:
                    return code == SELECT ? AFTER_SELECT : REFUSED;
                case AFTER_SELECT:
                    return code == DISTINCT ? AFTER_DISTINCT : placeAfterDistinct(code);
                case AFTER_DISTINCT:
                    return placeAfterDistinct(code);
                case BEFORE_E:
                    return code == NOT ? BEFORE_E : placeInS(code);
                case BEFORE_S:
                    return placeInS(code);
                case AFTER_U:
                    return placeAfterU(code);
                case BEFORE_SOURCE:
                    return placeInSource(code);
                case AFTER_SOURCE:
                    return code == WHERE ? BEFORE_E : placeAfterWholeSelect(code);
                default:
                    return REFUSED;
            }
        }

        private int placeAfterDistinct(int code) {
            return code == RETAINED || code == NOT ? BEFORE_E : placeInS(code);
        }

        private int placeInS(int code) {
            switch (code) {
                case NUMBER:
                case NULL:
                case THIS:
                    return AFTER_U;
                case OPEN:
                    return BEFORE_E;
                default:
                    return REFUSED;
            }
        }

        private int placeAfterU(int code) {
            switch (code) {
                case FIELD:
                case AT:
                    return AFTER_U;
                case PLUS:
                case MINUS:
                case TIMES:
                    return BEFORE_S;
                case EQ:
                case NE:
                case LESS:
                    return compared ? REFUSED : BEFORE_S;
                case AND:
                case OR:
                    return BEFORE_E;
                default:
                    return placeAfterE(code);
            }
        }

        private int placeAfterE(int code) {
            if (isInsideE()) {
                return code == CLOSE ? AFTER_U : REFUSED;
            }
            if (inWhere) {
                return placeAfterWholeSelect(code);
            }
            return code == FROM ? BEFORE_SOURCE : REFUSED;
        }

        private int placeInSource(int code) {
            switch (code) {
                case CLASS:
                case INSTANCEOF:
                    return AFTER_SOURCE;
                case OPEN:
                    return BEFORE_SELECT;
                default:
                    return REFUSED;
            }
        }

        private int placeAfterWholeSelect(int code) {
            switch (code) {
                case UNION:
                    return BEFORE_SELECT;
                case CLOSE:
                    return bracketCount > 0 ? AFTER_SOURCE : REFUSED;
                case END:
                    return bracketCount == 0 ? AFTER_END : REFUSED;
                default:
                    return REFUSED;
            }
        }

        private boolean isInsideE() {
            return bracketCount > 0 && brackets[bracketCount - 1] != QUERY_BRACKET;
        }

        private void remember(int code) {
            switch (code) {
                case SELECT:
                case WHERE:
                    inWhere = code == WHERE;
                    compared = false;
                    break;
                case EQ:
                case NE:
                case LESS:
                    compared = true;
                    break;
                case AND:
                case OR:
                    compared = false;
                    break;
                case OPEN:
                    openBracket();
                    break;
                case CLOSE:
                    closeBracket();
                    break;
                default:
                    break;
            }
        }

        private void openBracket() {
            if (bracketCount >= MAX_TOKENS) {
                return;
            }
            int ofE = compared ? COMPARED_E_BRACKET : E_BRACKET;
            brackets[bracketCount] = place == BEFORE_SOURCE ? QUERY_BRACKET : ofE;
            bracketCount++;
            compared = false;
        }

        private void closeBracket() {
            if (bracketCount <= 0) {
                return;
            }
            bracketCount--;
            compared = brackets[bracketCount] == COMPARED_E_BRACKET;
        }
    }

    /** An e as a tree: a code with its number and its operands, of which a NUMBER, NULL or THIS has none. */
    private static final class Node {
        final int code;
        final int number;
        final Node left;
        final Node right;

        Node(int code, int number, Node left, Node right) {
            this.code = code;
            this.number = number;
            this.left = left;
            this.right = right;
        }
    }

    /** A select, with the one that UNION puts behind it. */
    private static final class Select {
        boolean isDistinct;
        boolean isRetained;
        Node row;
        // The nested query of the source; null when the source is a class.
        Select nested;
        int sourceClass;
        boolean withDescendants;
        Node condition;
        Select next;
    }

    /** Makes trees of a whole text. It need not look for faults: the tokens that were taken keep to the grammar. */
    private static final class Reader {
        private static final int NO_OPERATOR = 0;
        private static final int OR_LEVEL = 1;
        private static final int AND_LEVEL = 2;
        private static final int COMPARISON_LEVEL = 3;
        private static final int SUM_LEVEL = 4;
        private static final int PRODUCT_LEVEL = 5;

        private final Text text;
        private int at;

        Reader(Text text) {
            this.text = text;
        }

        Select readQuery(int depth) {
            if (depth > MAX_SELECTS) {
                return null;
            }
            Select first = readSelect(depth);
            Select last = first;
            for (int more = 1; more < MAX_SELECTS && skip(UNION); more++) {
                last.next = readSelect(depth);
                last = last.next;
            }
            return first;
        }

        private Select readSelect(int depth) {
            Select select = new Select();
            skip(SELECT);
            select.isDistinct = skip(DISTINCT);
            select.isRetained = skip(RETAINED);
            select.row = readE(OR_LEVEL, 0);
            skip(FROM);
            if (skip(OPEN)) {
                select.nested = readQuery(depth + 1);
                skip(CLOSE);
            } else {
                select.withDescendants = code() == INSTANCEOF;
                select.sourceClass = text.numberAt(at);
                at++;
            }
            if (skip(WHERE)) {
                select.condition = readE(OR_LEVEL, 0);
            }
            return select;
        }

        /** Reads operands and the operators between them that bind at least as tightly as the level says. */
        private Node readE(int level, int depth) {
            if (depth > MAX_TOKENS) {
                return null;
            }
            Node left = skip(NOT)
                    ? new Node(NOT, 0, readE(COMPARISON_LEVEL, depth + 1), null)
                    : readM(depth);
            for (int more = 0; more < MAX_TOKENS && levelOf(code()) >= level; more++) {
                int operator = code();
                at++;
                left = new Node(operator, 0, left, readE(levelOf(operator) + 1, depth + 1));
            }
            return left;
        }

        private Node readM(int depth) {
            Node made;
            if (skip(OPEN)) {
                made = readE(OR_LEVEL, depth + 1);
                skip(CLOSE);
            } else {
                made = readStep(null);
            }
            for (int more = 0; more < MAX_TOKENS && (code() == FIELD || code() == AT); more++) {
                made = readStep(made);
            }
            return made;
        }

        private Node readStep(Node before) {
            Node made = new Node(code(), text.numberAt(at), before, null);
            at++;
            return made;
        }

        private int code() {
            return text.codeAt(at);
        }

        private boolean skip(int code) {
            boolean isThere = code() == code;
            if (isThere) {
                at++;
            }
            return isThere;
        }

        private static int levelOf(int code) {
            switch (code) {
                case OR:
                    return OR_LEVEL;
                case AND:
                    return AND_LEVEL;
                case EQ:
                case NE:
                case LESS:
                    return COMPARISON_LEVEL;
                case PLUS:
                case MINUS:
                    return SUM_LEVEL;
                case TIMES:
                    return PRODUCT_LEVEL;
                default:
                    return NO_OPERATOR;
            }
        }
    }

    /** Works out an e. */
    private static final class Calculator {
        private static final int ITS_NUMBER = 0;
        private static final int ITS_CLASS = 1;
        private static final int ITS_SIZE = 2;
        private static final int ITS_RETAINED_SIZE = 3;
        private static final int ITS_DOMINATOR = 4;
        private static final int ITS_LINK_COUNT = 5;

        static long valueOf(Heap heap, Node e, int self, int depth) {
            if (e == null || depth > MAX_TOKENS) {
                return Value.EMPTY;
            }
            if (e.left == null) {
                return valueOfLeaf(e, self);
            }
            long left = valueOf(heap, e.left, self, depth + 1);
            if (Value.isError(left)) {
                return left;
            }
            if (e.right == null) {
                return valueOfUnary(heap, e, left);
            }
            if (settles(e.code, left)) {
                return Value.truthOf(left);
            }
            long right = valueOf(heap, e.right, self, depth + 1);
            return Value.isError(right) ? right : valueOfBinary(e.code, left, right);
        }

        private static long valueOfLeaf(Node e, int self) {
            switch (e.code) {
                case NUMBER:
                    return Value.number(e.number);
                case THIS:
                    return Value.link(self);
                default:
                    return Value.EMPTY;
            }
        }

        private static long valueOfUnary(Heap heap, Node e, long operand) {
            if (e.code == NOT) {
                long truth = Value.truthOf(operand);
                return Value.isError(truth) ? truth : Value.flag(truth == Value.ZERO);
            }
            if (Value.isEmpty(operand)) {
                return Value.EMPTY;
            }
            int object = Value.contentOf(operand);
            if (!Value.isLink(operand) || !heap.hasObject(object)) {
                return Value.error(PATH);
            }
            return e.code == FIELD ? heap.fieldOf(object, e.number) : factOf(heap, object, e.number);
        }

        private static long factOf(Heap heap, int object, int fact) {
            switch (fact) {
                case ITS_NUMBER:
                    return Value.number(object);
                case ITS_CLASS:
                    return Value.number(heap.classOf(object));
                case ITS_SIZE:
                    return Value.number(heap.sizeOf(object));
                case ITS_RETAINED_SIZE:
                    return Value.number(heap.survey.retainedSizeOf(object));
                case ITS_DOMINATOR:
                    int immediate = heap.survey.immediateDominatorOf(object);
                    return immediate == NONE ? Value.EMPTY : Value.link(immediate);
                case ITS_LINK_COUNT:
                    return Value.number(heap.survey.linkCountOf(object));
                default:
                    return Value.EMPTY;
            }
        }

        /**
         * Whether an AND or OR is decided by its left operand, so that the right one is not worked out. A link
         * decides too: the document names its error ahead of the right operand, and the first error ends everything.
         */
        private static boolean settles(int code, long left) {
            if (code != AND && code != OR) {
                return false;
            }
            long truth = Value.truthOf(left);
            return Value.isError(truth) || truth == (code == OR ? Value.ONE : Value.ZERO);
        }

        private static long valueOfBinary(int code, long left, long right) {
            switch (code) {
                case AND:
                case OR:
                    return Value.truthOf(right);
                case EQ:
                    return Value.flag(left == right);
                case NE:
                    return Value.flag(left != right);
                default:
                    return valueOfArithmetic(code, left, right);
            }
        }

        private static long valueOfArithmetic(int code, long left, long right) {
            if (Value.isLink(left) || Value.isLink(right)) {
                return Value.error(TYPE);
            }
            if (Value.isEmpty(left) || Value.isEmpty(right)) {
                return code == LESS ? Value.ZERO : Value.EMPTY;
            }
            int x = Value.contentOf(left);
            int y = Value.contentOf(right);
            switch (code) {
                case LESS:
                    return Value.flag(x < y);
                case PLUS:
                    return Value.number(x + y);
                case MINUS:
                    return Value.number(x - y);
                default:
                    return Value.number(x * y);
            }
        }
    }

    /**
     * Works out queries, and keeps the rows and the count of looks of the latest one. Every select works on the
     * rows behind a start of its own: its source puts links there, and as an object gives at most one row, the
     * rows take the places of the links.
     */
    private static final class Worker {
        private final long[] rows = new long[MAX_ROWS];
        private int count;
        private int looks;

        int rowCount() {
            return count;
        }

        boolean hasRow(int i) {
            return i >= 0 && i < count;
        }

        long row(int i) {
            return rows[i];
        }

        int lookCount() {
            return looks;
        }

        void begin() {
            count = 0;
            looks = 0;
        }

        void dropRows() {
            count = 0;
        }

        int addQuery(Heap heap, Select first, int depth) {
            if (depth > MAX_SELECTS) {
                return NO_ERROR;
            }
            int error = NO_ERROR;
            for (Select select = first; select != null && error == NO_ERROR; select = select.next) {
                error = addSelect(heap, select, depth);
            }
            return error;
        }

        private int addSelect(Heap heap, Select select, int depth) {
            int start = count;
            int error = addSource(heap, select, depth);
            if (error == NO_ERROR) {
                error = lookAtAll(heap, select, start);
            }
            if (error != NO_ERROR) {
                return error;
            }
            if (select.isRetained) {
                return turnIntoRetained(heap, start);
            }
            if (select.isDistinct) {
                leaveOutRepeated(start);
            }
            return NO_ERROR;
        }

        private int addSource(Heap heap, Select select, int depth) {
            if (select.nested == null) {
                addObjectsOfClass(heap, select);
                return NO_ERROR;
            }
            int start = count;
            int error = addQuery(heap, select.nested, depth + 1);
            if (error != NO_ERROR) {
                return error;
            }
            if (hasNumber(start)) {
                return OBJECTS;
            }
            leaveOutEmpty(start);
            return NO_ERROR;
        }

        private void addObjectsOfClass(Heap heap, Select select) {
            int c = select.sourceClass;
            for (int object = 0; object < heap.size(); object++) {
                if (select.withDescendants ? heap.isInstance(object, c) : heap.classOf(object) == c) {
                    add(Value.link(object));
                }
            }
        }

        private int lookAtAll(Heap heap, Select select, int start) {
            int end = count;
            count = start;
            for (int i = start; i < end; i++) {
                int self = Value.contentOf(rows[i]);
                looks++;
                long truth = select.condition == null
                        ? Value.ONE
                        : Value.truthOf(Calculator.valueOf(heap, select.condition, self, 0));
                if (Value.isError(truth)) {
                    return Value.contentOf(truth);
                }
                if (truth == Value.ZERO) {
                    continue;
                }
                long row = Calculator.valueOf(heap, select.row, self, 0);
                if (Value.isError(row)) {
                    return Value.contentOf(row);
                }
                add(row);
            }
            return NO_ERROR;
        }

        private int turnIntoRetained(Heap heap, int start) {
            if (hasNumber(start)) {
                return OBJECTS;
            }
            int linked = 0;
            for (int i = start; i < count; i++) {
                if (Value.isLink(rows[i])) {
                    linked |= 1 << Value.contentOf(rows[i]);
                }
            }
            int kept = heap.survey.retainedBy(linked);
            count = start;
            for (int object = 0; object < heap.size(); object++) {
                if ((kept & 1 << object) != 0) {
                    add(Value.link(object));
                }
            }
            return NO_ERROR;
        }

        private void leaveOutRepeated(int start) {
            int end = count;
            count = start;
            for (int i = start; i < end; i++) {
                if (!hasRowSince(start, rows[i])) {
                    add(rows[i]);
                }
            }
        }

        private void leaveOutEmpty(int start) {
            int end = count;
            count = start;
            for (int i = start; i < end; i++) {
                if (!Value.isEmpty(rows[i])) {
                    add(rows[i]);
                }
            }
        }

        private boolean hasNumber(int start) {
            for (int i = start; i < count; i++) {
                if (Value.isNumber(rows[i])) {
                    return true;
                }
            }
            return false;
        }

        private boolean hasRowSince(int start, long row) {
            for (int i = start; i < count; i++) {
                if (rows[i] == row) {
                    return true;
                }
            }
            return false;
        }

        private void add(long row) {
            if (count < MAX_ROWS) {
                rows[count] = row;
                count++;
            }
        }
    }
}
