import java.lang.reflect.Constructor;
import java.lang.reflect.Field;
import java.lang.reflect.Method;
import java.lang.reflect.Modifier;
import java.nio.file.Files;
import java.nio.file.Path;
import java.util.Arrays;
import java.util.Set;
import java.util.TreeSet;
import java.util.regex.Matcher;
import java.util.regex.Pattern;

/** The public face of the document, and those rules of LANGUAGE.md that can be seen in the class and its text. */
public final class FaceTest {
    private static final Tally TALLY = new Tally("FaceTest");
    private static final String[] FACE = {
        "int seed(int)", "int put(int,int,boolean)", "int say(int)", "int wipe()", "int fault()", "int judge(int)",
        "int behind(int,int)", "int alike(int)", "int done()", "int node(int,int,int)", "int place(int,int)", "int at(int,int)",
        "int apart(int,int,int)", "int differs(int,int,int)", "int above(int,int)", "int forget()", "int seeds(int)",
        "long orders(int)", "long shapes(int)", "long deep(int,int,int)", "int run(int,int,int)", "int image(int)",
        "int restore(int)", "int told(int)"};
    private static final String[] CONSTANTS = {"UNKNOWN", "OUTSIDE", "STATE", "FULL", "NO", "NONE", "GONE"};
    private static final String[] FORBIDDEN = {
        "\\bthrows?\\b", "\\btry\\b", "\\bcatch\\b", "\\bsynchronized\\b", "\\bassert\\b", "\\bimport\\b", "\\bpackage\\b", "->", "::",
        "Exact\\b", "\\bstatic \\{", "\\bprotected\\b", "\\bvar\\b", "System\\.(?!arraycopy)", "\\bRandom\\b", "\\bThread\\b", "\\bjava\\."};

    public static void main(String[] args) throws Exception {
        face();
        constants();
        classesInside();
        text(Files.readString(Path.of(System.getProperty("keyedtree.source", "src/main/java/KeyedTree.java"))));
        TALLY.end();
    }

    private static String told(Method method) {
        StringBuilder all = new StringBuilder(method.getReturnType().getName()).append(' ').append(method.getName()).append('(');
        for (Class<?> type : method.getParameterTypes()) {
            all.append(all.charAt(all.length() - 1) == '(' ? "" : ",").append(type.getName());
        }
        return all.append(')').toString();
    }

    private static void face() {
        Set<String> want = new TreeSet<>(Arrays.asList(FACE));
        Set<String> names = new TreeSet<>();
        Set<String> got = new TreeSet<>();
        for (Method method : KeyedTree.class.getDeclaredMethods()) {
            if (!Modifier.isPrivate(method.getModifiers())) {
                TALLY.must(method + " is public and not static",
                    (method.getModifiers() & (Modifier.PUBLIC | Modifier.STATIC)) == Modifier.PUBLIC);
                got.add(told(method));
                names.add(method.getName());
            }
        }
        TALLY.must("the face is " + got, got.equals(want));
        for (Method method : KeyedTree.class.getDeclaredMethods()) {
            if (Modifier.isPrivate(method.getModifiers())) {
                TALLY.must(method + " has a name of its own", !names.contains(method.getName()));
            }
        }
        int modifiers = KeyedTree.class.getModifiers();
        TALLY.must("the class is public and final", Modifier.isPublic(modifiers) && Modifier.isFinal(modifiers));
        Constructor<?>[] made = KeyedTree.class.getDeclaredConstructors();
        TALLY.must("one constructor", made.length == 1 && made[0].getParameterCount() == 0 && Modifier.isPublic(made[0].getModifiers()));
    }

    private static void constants() {
        TALLY.due("UNKNOWN", KeyedTree.UNKNOWN, -1);
        TALLY.due("OUTSIDE", KeyedTree.OUTSIDE, -2);
        TALLY.due("STATE", KeyedTree.STATE, -3);
        TALLY.due("FULL", KeyedTree.FULL, -4);
        TALLY.due("NO", KeyedTree.NO, -5);
        TALLY.due("NONE", KeyedTree.NONE, -6);
        TALLY.due("GONE", KeyedTree.GONE, -1000000000000000000L);
        Set<String> got = new TreeSet<>();
        for (Field field : KeyedTree.class.getDeclaredFields()) {
            boolean isStatic = Modifier.isStatic(field.getModifiers());
            TALLY.must(field + " is final, if static", !isStatic || Modifier.isFinal(field.getModifiers()));
            if (!Modifier.isPrivate(field.getModifiers())) {
                TALLY.must(field + " is public and static", Modifier.isPublic(field.getModifiers()) && isStatic);
                got.add(field.getName());
            }
        }
        TALLY.must("the constants are " + got, got.equals(new TreeSet<>(Arrays.asList(CONSTANTS))));
    }

    private static void classesInside() {
        Class<?>[] inside = KeyedTree.class.getDeclaredClasses();
        TALLY.must("at most twelve classes", inside.length < 12);
        for (Class<?> one : inside) {
            int modifiers = one.getModifiers();
            TALLY.must(one + " is static and not public", Modifier.isStatic(modifiers) && !Modifier.isPublic(modifiers));
            int fields = 0;
            for (Field field : one.getDeclaredFields()) {
                boolean isStatic = Modifier.isStatic(field.getModifiers());
                TALLY.must(field + " is final, if static", !isStatic || Modifier.isFinal(field.getModifiers()));
                fields += isStatic ? 0 : 1;
            }
            TALLY.must(one + " has few fields", fields <= 20);
            for (Method method : one.getDeclaredMethods()) {
                TALLY.must(method + " has few parameters", method.getParameterCount() <= 7);
            }
        }
    }

    private static void text(String source) {
        String code = source.replaceAll("(?s)/\\*.*?\\*/", " ").replaceAll("//[^\n]*", "").replaceAll("'.'", "' '");
        for (String pattern : FORBIDDEN) {
            Matcher found = Pattern.compile(pattern).matcher(code);
            TALLY.must("no " + pattern, !found.find());
        }
        TALLY.must("no text but ASCII", source.chars().allMatch(sign -> sign < 128));
        int began = 0;
        String[] lines = source.split("\n");
        for (int i = 0; i < lines.length; i++) {
            if (lines[i].matches(" {4}( {4})?\\w[^=;]*\\) \\{")) {
                began = i;
            } else if (lines[i].matches(" {4}( {4})?\\}")) {
                TALLY.must("a short method ends in line " + (i + 1), i - began <= 60 || lines[i].startsWith("    }"));
            }
        }
    }
}
