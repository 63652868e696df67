import java.lang.reflect.Constructor;
import java.lang.reflect.Field;
import java.lang.reflect.Method;
import java.lang.reflect.Modifier;
import java.util.Arrays;
import java.util.Set;
import java.util.TreeSet;

/** The document's face, and no other member that can be seen from outside. */
public final class FaceTest {
    private static final String[] FACE = {
        "int row(int, int, int)", "boolean tear(int)", "int write(int, int, long)", "int net(int)",
        "int load(int, int, int)", "int pull(int, int)", "int stresses()", "boolean stress(int, int)", "int ways()",
        "boolean way(int, int, int)", "boolean even()", "boolean left(int, int)", "int borne()", "boolean bears(int)",
        "boolean shaped()", "boolean shape(int, int)", "int tight()", "int stiff()", "int look(int)",
        "int part(boolean, int)", "int told(int, int)", "int count(int)"};

    private FaceTest() {
    }

    public static void main(String[] args) throws ReflectiveOperationException {
        Class<?> face = TensionNet.class;
        Check.due("public and final", face.getModifiers(), Modifier.PUBLIC | Modifier.FINAL);
        Check.due("NONE is public, static and final", face.getDeclaredField("NONE").getModifiers(),
                Modifier.PUBLIC | Modifier.STATIC | Modifier.FINAL);
        Set<String> seen = new TreeSet<>();
        Set<String> names = new TreeSet<>();
        for (Method method : face.getDeclaredMethods()) {
            if (!Modifier.isPrivate(method.getModifiers())) {
                Check.due(method + " is public alone", method.getModifiers(), Modifier.PUBLIC);
                seen.add(text(method));
                names.add(method.getName());
            }
        }
        if (!seen.equals(new TreeSet<>(Arrays.asList(FACE)))) {
            Check.wrong("the face is " + seen);
        }
        for (Field field : face.getDeclaredFields()) {
            Check.due(field + " is hidden", Modifier.isPrivate(field.getModifiers()) || field.getName().equals("NONE"),
                    true);
        }
        Constructor<?>[] makers = face.getDeclaredConstructors();
        Check.due("one constructor", makers.length, 1);
        Check.due("it is public", makers[0].getModifiers(), Modifier.PUBLIC);
        Check.due("it takes nothing", makers[0].getParameterCount(), 0);
        judgeHidden(face, names);
        for (Class<?> inside : face.getDeclaredClasses()) {
            Check.due(inside + " is static and private",
                    Modifier.isStatic(inside.getModifiers()) && Modifier.isPrivate(inside.getModifiers()), true);
            judgeHidden(inside, names);
        }
        Check.end();
    }

    private static String text(Method method) {
        StringBuilder text = new StringBuilder(method.getReturnType() + " " + method.getName() + "(");
        String between = "";
        for (Class<?> type : method.getParameterTypes()) {
            text.append(between).append(type);
            between = ", ";
        }
        return text.append(")").toString();
    }

    private static void judgeHidden(Class<?> of, Set<String> names) {
        for (Method method : of.getDeclaredMethods()) {
            boolean open = Modifier.isPublic(method.getModifiers());
            Check.due(method + " bears a public name", !open && names.contains(method.getName()), false);
            Check.due(method + " takes seven at most", method.getParameterCount() <= 7, true);
        }
        int fields = 0;
        for (Field field : of.getDeclaredFields()) {
            if (Modifier.isStatic(field.getModifiers())) {
                Check.due(field + " is final", Modifier.isFinal(field.getModifiers()), true);
            } else {
                fields++;
            }
        }
        Check.due(of + " has few fields", fields <= 20, true);
    }
}
