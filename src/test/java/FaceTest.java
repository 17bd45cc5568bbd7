import java.lang.reflect.Constructor;
import java.lang.reflect.Field;
import java.lang.reflect.Method;
import java.lang.reflect.Modifier;
import java.util.Set;
import java.util.TreeSet;

/** The public face: the members of the document and no other that is not private. */
public final class FaceTest {
    public static void main(String[] args) {
        Check.due("modifiers", Modifier.toString(HeapQueries.class.getModifiers()), "public final");
        Check.due("members", members(), new TreeSet<>(Set.of(
                "public static final int NONE", "public static final int INCOMPLETE", "public static final int PATH",
                "public static final int TYPE", "public static final int OBJECTS",
                "public HeapQueries()",
                "public int addClass(int)", "public int addObject(int,int)",
                "public boolean set(int,int,int,int)", "public boolean setRoot(int,boolean)",
                "public int dominator(int)", "public int retained(int)", "public boolean token(int,int)",
                "public int tokens()", "public int depth()", "public void clear()", "public int run()",
                "public int rows()", "public int kind(int)", "public int value(int)", "public int looked()")));
        for (Class<?> inside : HeapQueries.class.getDeclaredClasses()) {
            Check.due(inside.getName() + " is static", Modifier.isStatic(inside.getModifiers()), true);
        }
        Check.due("NONE", HeapQueries.NONE, -1);
        Check.due("INCOMPLETE", HeapQueries.INCOMPLETE, -1);
        Check.due("PATH", HeapQueries.PATH, -2);
        Check.due("TYPE", HeapQueries.TYPE, -3);
        Check.due("OBJECTS", HeapQueries.OBJECTS, -4);
        Check.end();
    }

    private static Set<String> members() {
        Set<String> found = new TreeSet<>();
        for (Field field : HeapQueries.class.getDeclaredFields()) {
            if (!Modifier.isPrivate(field.getModifiers())) {
                found.add(field.toString().replace("HeapQueries.", ""));
            }
        }
        for (Constructor<?> constructor : HeapQueries.class.getDeclaredConstructors()) {
            if (!Modifier.isPrivate(constructor.getModifiers())) {
                found.add(constructor.toString());
            }
        }
        for (Method method : HeapQueries.class.getDeclaredMethods()) {
            if (!Modifier.isPrivate(method.getModifiers())) {
                found.add(method.toString().replace("HeapQueries.", ""));
            }
        }
        return found;
    }
}
