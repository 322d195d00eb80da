import java.lang.reflect.Constructor;
import java.lang.reflect.Field;
import java.lang.reflect.Method;
import java.lang.reflect.Modifier;
import java.util.Arrays;
import java.util.Set;
import java.util.TreeSet;

/** The public face of the document, and that nothing else of the class is seen outside (LANGUAGE.md, rule 1). */
public final class FaceTest {
    private static final Tally TALLY = new Tally("FaceTest");
    private static final String[] FACE = {
        "int seed(int)", "int put(int,int,boolean)", "int say(int)", "int wipe()", "int fault()", "int judge(int)",
        "int behind(int,int)", "int alike(int)", "int done()", "int node(int,int,int)", "int place(int,int)", "int at(int,int)",
        "int apart(int,int,int)", "int differs(int,int,int)", "int above(int,int)", "int forget()", "int seeds(int)",
        "long orders(int)", "long shapes(int)", "long deep(int,int,int)", "int run(int,int,int)", "int image(int)",
        "int restore(int)", "int told(int)"};
    private static final String[] CONSTANTS = {"UNKNOWN", "OUTSIDE", "STATE", "FULL", "NO", "NONE", "GONE"};

    public static void main(String[] args) {
        face();
        constants();
        TALLY.end();
    }

    private static String told(Method method) {
        StringBuilder all = new StringBuilder(method.getReturnType().getName()).append(' ').append(method.getName()).append('(');
        for (Class<?> type : method.getParameterTypes()) {
            all.append(all.charAt(all.length() - 1) == '(' ? "" : ",").append(type.getName());
        }
        return all.append(')').toString();
    }

    private static void face() {
        Set<String> want = new TreeSet<>(Arrays.asList(FACE));
        Set<String> names = new TreeSet<>();
        Set<String> got = new TreeSet<>();
        for (Method method : KeyedTree.class.getDeclaredMethods()) {
            if (!Modifier.isPrivate(method.getModifiers())) {
                TALLY.must(method + " is public and not static",
                    (method.getModifiers() & (Modifier.PUBLIC | Modifier.STATIC)) == Modifier.PUBLIC);
                got.add(told(method));
                names.add(method.getName());
            }
        }
        TALLY.must("the face is " + got, got.equals(want));
        namesOfTheirOwn(KeyedTree.class, names);
        for (Class<?> inside : KeyedTree.class.getDeclaredClasses()) {
            namesOfTheirOwn(inside, names);
        }
        int modifiers = KeyedTree.class.getModifiers();
        TALLY.must("the class is public and final", Modifier.isPublic(modifiers) && Modifier.isFinal(modifiers));
        Constructor<?>[] made = KeyedTree.class.getDeclaredConstructors();
        TALLY.must("one constructor", made.length == 1 && made[0].getParameterCount() == 0 && Modifier.isPublic(made[0].getModifiers()));
    }

    private static void constants() {
        TALLY.due("UNKNOWN", KeyedTree.UNKNOWN, -1);
        TALLY.due("OUTSIDE", KeyedTree.OUTSIDE, -2);
        TALLY.due("STATE", KeyedTree.STATE, -3);
        TALLY.due("FULL", KeyedTree.FULL, -4);
        TALLY.due("NO", KeyedTree.NO, -5);
        TALLY.due("NONE", KeyedTree.NONE, -6);
        TALLY.due("GONE", KeyedTree.GONE, -1000000000000000000L);
        Set<String> got = new TreeSet<>();
        for (Field field : KeyedTree.class.getDeclaredFields()) {
            boolean isStatic = Modifier.isStatic(field.getModifiers());
            TALLY.must(field + " is final, if static", !isStatic || Modifier.isFinal(field.getModifiers()));
            if (!Modifier.isPrivate(field.getModifiers())) {
                TALLY.must(field + " is public and static", Modifier.isPublic(field.getModifiers()) && isStatic);
                got.add(field.getName());
            }
        }
        TALLY.must("the constants are " + got, got.equals(new TreeSet<>(Arrays.asList(CONSTANTS))));
    }

    private static void namesOfTheirOwn(Class<?> of, Set<String> names) {
        for (Method method : of.getDeclaredMethods()) {
            if (Modifier.isPrivate(method.getModifiers())) {
                TALLY.must(method + " has a name of its own", !names.contains(method.getName()));
            }
        }
    }
}
