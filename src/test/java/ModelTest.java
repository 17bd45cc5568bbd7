import java.util.ArrayList;
import java.util.List;

/** All promises: runs of calls, made up from fixed seeds, with every answer compared with the model's. */
public final class ModelTest {
    private static final int RUNS = 1500;
    private static final int CALLS = 512;
    private static final String[][] OPERATORS = {
        {"OR"}, {"AND"}, {"EQ", "NE", "LESS"}, {"PLUS", "MINUS"}, {"TIMES"}};

    private final Dice dice;
    private final int run;
    private final HeapQueries x = new HeapQueries();
    private final Model model = new Model();
    private int calls;

    private ModelTest(int run) {
        this.run = run;
        dice = new Dice(run);
    }

    public static void main(String[] args) {
        int[] ends = new int[5];
        for (int run = 0; run < RUNS; run++) {
            new ModelTest(run).go(ends);
        }
        System.out.println("runs with rows " + ends[0] + ", INCOMPLETE " + ends[1] + ", PATH " + ends[2]
                + ", TYPE " + ends[3] + ", OBJECTS " + ends[4]);
        for (int end : ends) {
            Check.due("every end of a run was met", end > 50, true);
        }
        Check.end();
    }

    private void same(String call, Object got, Object want) {
        calls++;
        Check.due("run " + run + ", call " + calls + ": " + call, got, want);
    }

    private void go(int[] ends) {
        fill();
        while (calls < CALLS - 150) {
            change();
            if (dice.nextInt(8) == 0) {
                babble();
            } else {
                giveQuery();
            }
            runAndLook(ends);
        }
    }

    private void fill() {
        int classes = 1 + dice.nextInt(9);
        int objects = dice.nextInt(8) == 0 ? 25 : 1 + dice.nextInt(10);
        for (int c = 0; c < classes; c++) {
            addClass(dice.nextInt(3) == 0 ? -1 : c - 1 - dice.nextInt(2));
        }
        for (int object = 0; object < objects; object++) {
            addObject(dice.nextInt(Math.min(classes, 4)), 1 + dice.nextInt(1000));
        }
        for (int i = 0; i < objects * 2; i++) {
            set(dice.nextInt(objects), dice.nextInt(4), 2, dice.nextInt(objects));
        }
        for (int i = 0; i < 3; i++) {
            setRoot(dice.nextInt(objects), true);
        }
        set(dice.nextInt(objects), dice.nextInt(4), 1, dice.nextInt(5) - 2);
    }

    private int object() {
        return dice.nextInt(27) - 1;
    }

    private void change() {
        for (int i = dice.nextInt(6); i > 0; i--) {
            switch (dice.nextInt(8)) {
                case 0:
                    addClass(dice.nextInt(10) - 2);
                    break;
                case 1:
                    addObject(dice.nextInt(10) - 1, dice.nextInt(4) == 0 ? dice.nextInt(1200) - 100 : 1);
                    break;
                case 2:
                    setRoot(object(), dice.nextBoolean());
                    break;
                case 3:
                    int d = object();
                    same("dominator(" + d + ")", x.dominator(d), model.dominator(d));
                    break;
                case 4:
                    int r = object();
                    same("retained(" + r + ")", x.retained(r), model.retained(r));
                    break;
                default:
                    set(dice.nextInt(9), dice.nextInt(5), dice.nextInt(4), dice.nextInt(9) - 1);
                    break;
            }
        }
    }

    private void addClass(int parent) {
        same("addClass(" + parent + ")", x.addClass(parent), model.addClass(parent));
    }

    private void addObject(int c, int size) {
        same("addObject(" + c + ", " + size + ")", x.addObject(c, size), model.addObject(c, size));
    }

    private void set(int object, int field, int kind, int value) {
        same("set(" + object + ", " + field + ", " + kind + ", " + value + ")",
                x.set(object, field, kind, value), model.set(object, field, kind, value));
    }

    private void setRoot(int object, boolean root) {
        same("setRoot(" + object + ", " + root + ")", x.setRoot(object, root), model.setRoot(object, root));
    }

    private boolean give(int code, int n) {
        boolean want = model.token(code, n);
        same("token(" + code + ", " + n + ")", x.token(code, n), want);
        return want;
    }

    private void clear() {
        x.clear();
        model.clear();
        calls++;
    }

    /** Any tokens, most of which are refused. */
    private void babble() {
        if (dice.nextBoolean()) {
            clear();
        }
        for (int i = 0; i < 60; i++) {
            give(dice.nextInt(27) - 1, dice.nextInt(8) - 1);
        }
        same("tokens()", x.tokens(), model.tokens());
        same("depth()", x.depth(), model.depth());
    }

    /** A whole query, with a wrong token now and then. */
    private void giveQuery() {
        clear();
        List<String> words = new ArrayList<>();
        do {
            words.clear();
            query(words, 2);
            words.add("END");
        } while (words.size() > 60 || words.size() > 40 && dice.nextInt(20) > 0);
        for (String word : words) {
            if (dice.nextInt(12) == 0 && give(dice.nextInt(25), dice.nextInt(6))) {
                break;
            }
            give(Check.WORDS.indexOf(word), numberFor(word));
        }
        same("tokens()", x.tokens(), model.tokens());
        same("depth()", x.depth(), model.depth());
    }

    private int numberFor(String word) {
        switch (word) {
            case "CLASS":
            case "INSTANCEOF":
                return dice.nextInt(20) == 0 ? dice.nextInt(9) : 0;
            case "FIELD":
                return dice.nextInt(4);
            case "AT":
                return dice.nextInt(3) == 0 ? 4 : dice.nextInt(6);
            default:
                return dice.nextInt(10) == 0 ? dice.nextInt() : dice.nextInt(4) - 1;
        }
    }

    private void query(List<String> to, int depth) {
        select(to, depth);
        while (dice.nextInt(4) == 0) {
            to.add("UNION");
            select(to, depth);
        }
    }

    private void select(List<String> to, int depth) {
        to.add("SELECT");
        maybe(to, "DISTINCT");
        maybe(to, "RETAINED");
        if (dice.nextInt(3) > 0) {
            path(to);
        } else {
            e(to, 2);
        }
        to.add("FROM");
        if (depth > 0 && dice.nextInt(3) == 0) {
            to.add("OPEN");
            query(to, depth - 1);
            to.add("CLOSE");
        } else {
            to.add(dice.nextInt(3) == 0 ? "CLASS" : "INSTANCEOF");
        }
        if (dice.nextBoolean()) {
            to.add("WHERE");
            e(to, 2);
        }
    }

    private void maybe(List<String> to, String word) {
        if (dice.nextInt(4) == 0) {
            to.add(word);
        }
    }

    private void path(List<String> to) {
        to.add("THIS");
        while (dice.nextInt(2) == 0) {
            to.add(dice.nextInt(3) == 0 ? "AT" : "FIELD");
        }
    }

    private void e(List<String> to, int depth) {
        chain(to, depth, 0);
    }

    /** Operands of a level with operators of this level between them; a comparison stands once at most. */
    private void chain(List<String> to, int depth, int level) {
        if (level == OPERATORS.length) {
            unit(to, depth);
            return;
        }
        while (level == 2 && dice.nextInt(4) == 0) {
            to.add("NOT");
        }
        String[] operators = OPERATORS[level];
        chain(to, depth, level + 1);
        int most = level == 2 ? 1 : 2;
        for (int i = 0; i < most && dice.nextInt(level == 2 ? 2 : 6) == 0; i++) {
            to.add(operators[dice.nextInt(operators.length)]);
            chain(to, depth, level + 1);
        }
    }

    private void unit(List<String> to, int depth) {
        int choice = dice.nextInt(8);
        if (choice == 0 && depth > 0) {
            to.add("OPEN");
            e(to, depth - 1);
            to.add("CLOSE");
        } else if (choice <= 2) {
            to.add("NUMBER");
        } else if (choice == 3) {
            to.add("NULL");
        } else {
            to.add("THIS");
        }
        if (choice > 3 || choice == 0) {
            while (dice.nextInt(5) < 3) {
                to.add(dice.nextInt(2) == 0 ? "AT" : "FIELD");
            }
        }
    }

    private void runAndLook(int[] ends) {
        int want = model.run();
        ends[want >= 0 ? 0 : -want]++;
        same("run()", x.run(), want);
        same("rows()", x.rows(), model.rows());
        same("looked()", x.looked(), model.looked());
        for (int i = -1; i <= Math.min(model.rows(), 20); i++) {
            same("kind(" + i + ")", x.kind(i), model.kind(i));
            same("value(" + i + ")", x.value(i), model.value(i));
        }
    }
}
