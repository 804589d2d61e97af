import java.lang.reflect.Field;
import java.lang.reflect.Method;
import java.lang.reflect.Modifier;
import java.util.Set;
import java.util.TreeSet;

/** The members of the class that others can see are those of the document, and no more. */
public final class FaceTest {
    private static final Set<String> METHODS = Set.of(
        "int sign(int,int)", "int clear(int)", "int compile(int)", "int fault(int)", "int link()",
        "int start()", "int run(int)", "int stop()", "int set(int,int)", "long get(int)",
        "long output(int)", "int at(int)", "long operate(int,int,int)", "int state(int,int)");
    private static final Set<String> CONSTANTS = Set.of(
        "int DONE=0", "int REFUSED=-1", "int BAD=-2", "int DOUBLE=-3", "int MISSING=-4",
        "int CIRCLE=-5", "long NONE=-1000000000000");

    public static void main(String[] args) throws ReflectiveOperationException {
        Check c = new Check("face");
        Class<?> face = GateStack.class;
        c.due("public and final", face.getModifiers(), Modifier.PUBLIC | Modifier.FINAL);
        c.due("constructors", face.getDeclaredConstructors().length, 1);
        c.due("public constructors", face.getConstructors().length, 1);
        c.due("its parameters", face.getConstructors()[0].getParameterCount(), 0);
        c.due("methods " + methods(face), methods(face).equals(METHODS) ? 1 : 0, 1);
        c.due("constants " + constants(face), constants(face).equals(CONSTANTS) ? 1 : 0, 1);
        for (Class<?> inside : face.getDeclaredClasses()) {
            int kind = inside.getModifiers();
            c.due(inside.getName() + " is static", Modifier.isStatic(kind) ? 1 : 0, 1);
            c.due(inside.getName() + " is public", Modifier.isPublic(kind) ? 1 : 0, 0);
        }
        c.end();
    }

    private static Set<String> methods(Class<?> face) {
        Set<String> found = new TreeSet<>();
        for (Method method : face.getDeclaredMethods()) {
            if (!Modifier.isPrivate(method.getModifiers())) {
                String whole = method.toString();
                String start = "public " + method.getReturnType() + " GateStack.";
                boolean plain = whole.startsWith(start);
                found.add(plain ? method.getReturnType() + " " + whole.substring(start.length()) : whole);
            }
        }
        return found;
    }

    private static Set<String> constants(Class<?> face) throws ReflectiveOperationException {
        Set<String> found = new TreeSet<>();
        for (Field field : face.getDeclaredFields()) {
            if (!Modifier.isPrivate(field.getModifiers())) {
                boolean constant = field.toString().startsWith("public static final ");
                found.add(constant ? field.getType() + " " + field.getName() + "=" + field.get(null)
                    : field.toString());
            }
        }
        return found;
    }
}
