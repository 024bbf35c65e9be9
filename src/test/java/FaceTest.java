import java.lang.reflect.Constructor;
import java.lang.reflect.Field;
import java.lang.reflect.Method;
import java.lang.reflect.Modifier;
import java.util.Arrays;
import java.util.TreeSet;

/** The public face is the document's, and nothing beside it can be seen from outside. */
public final class FaceTest {
    private static final String STATE = "IllegalStateException";
    private static final String ARGUMENT = "IllegalArgumentException";
    private static final String BOTH = ARGUMENT + "," + STATE;

    private static final String[] FACE = {
        "void clear() []",
        "int put(int,int) [" + BOTH + "]",
        "int begin(int,int,int) [" + BOTH + "]",
        "int move(int,int,int) [" + BOTH + "]",
        "int undo() [" + STATE + "]",
        "int made() []",
        "int at(int) []",
        "int side() []",
        "int rights() []",
        "int passed() []",
        "int moves() [" + STATE + "]",
        "int nth(int) [" + BOTH + "]",
        "boolean check() [" + STATE + "]",
        "int ending() [" + STATE + "]",
        "int quiet() [" + STATE + "]",
        "int seen() [" + STATE + "]",
        "boolean hits(int,int) [" + ARGUMENT + "]",
        "int mate(int) [" + BOTH + "]",
    };

    public static void main(String[] args) {
        Checks checks = new Checks();
        int kind = RuledBoard.class.getModifiers();
        checks.due("class is public and final", Modifier.isPublic(kind) && Modifier.isFinal(kind), true);
        TreeSet<String> seen = new TreeSet<>();
        TreeSet<String> names = new TreeSet<>();
        for (Method method : RuledBoard.class.getDeclaredMethods()) {
            if (!Modifier.isPrivate(method.getModifiers())) {
                seen.add(told(method));
                names.add(method.getName());
            }
        }
        checks.dueText("methods", seen.toString(), new TreeSet<>(Arrays.asList(FACE)).toString());
        for (Method method : RuledBoard.class.getDeclaredMethods()) {
            if (Modifier.isPrivate(method.getModifiers())) {
                checks.due("private " + method.getName() + " bears a public name",
                        names.contains(method.getName()), false);
            }
        }
        lookAtTheRest(checks);
        checks.finish();
    }

    private static void lookAtTheRest(Checks checks) {
        Constructor<?>[] made = RuledBoard.class.getDeclaredConstructors();
        checks.due("constructors", made.length, 1);
        checks.due("constructor is public and takes nothing",
                Modifier.isPublic(made[0].getModifiers()) && made[0].getParameterCount() == 0, true);
        for (Field field : RuledBoard.class.getDeclaredFields()) {
            checks.due("field " + field.getName() + " is private",
                    Modifier.isPrivate(field.getModifiers()), true);
        }
        for (Class<?> inside : RuledBoard.class.getDeclaredClasses()) {
            int kind = inside.getModifiers();
            checks.due("class " + inside.getSimpleName() + " is static and hidden",
                    Modifier.isStatic(kind) && !Modifier.isPublic(kind) && !Modifier.isProtected(kind), true);
        }
    }

    private static String told(Method method) {
        StringBuilder text = new StringBuilder();
        text.append(Modifier.isPublic(method.getModifiers()) ? "" : "not public ");
        text.append(Modifier.isStatic(method.getModifiers()) ? "static " : "");
        text.append(method.getReturnType().getSimpleName()).append(' ').append(method.getName());
        text.append(names(method.getParameterTypes(), false, '(', ')')).append(' ');
        return text.append(names(method.getExceptionTypes(), true, '[', ']')).toString();
    }

    private static String names(Class<?>[] types, boolean sorted, char open, char close) {
        String[] names = new String[types.length];
        for (int k = 0; k < types.length; k++) {
            names[k] = types[k].getSimpleName();
        }
        if (sorted) {
            Arrays.sort(names);
        }
        return open + String.join(",", names) + close;
    }
}
