import java.io.IOException;
import java.lang.reflect.Field;
import java.lang.reflect.Method;
import java.lang.reflect.Modifier;
import java.nio.file.Files;
import java.nio.file.Path;
import java.util.Set;
import java.util.TreeSet;

/** The members of the class that others can see are those of the document, and no more. */
public final class FaceTest {
    private static final Set<String> METHODS = Set.of(
        "int sign(int,int)", "int clear(int)", "int compile(int)", "int fault(int)", "int link()",
        "int start()", "int run(int)", "int stop()", "int set(int,int)", "long get(int)",
        "long output(int)", "int at(int)", "long operate(int,int,int)", "int state(int,int)");
    private static final Set<String> CONSTANTS = Set.of(
        "int DONE=0", "int REFUSED=-1", "int BAD=-2", "int DOUBLE=-3", "int MISSING=-4",
        "int CIRCLE=-5", "long NONE=-1000000000000");
    /** The code block of the document, as it stands there. */
    private static final String BLOCK = """
        public final class GateStack {
            public static final int DONE = 0;
            public static final int REFUSED = -1;
            public static final int BAD = -2;
            public static final int DOUBLE = -3;
            public static final int MISSING = -4;
            public static final int CIRCLE = -5;
            public static final long NONE = -1000000000000L;
            public GateStack();
            public int sign(int module, int code);
            public int clear(int module);
            public int compile(int module);
            public int fault(int module);
            public int link();
            public int start();
            public int run(int n);
            public int stop();
            public int set(int variable, int value);
            public long get(int variable);
            public long output(int i);
            public int at(int what);
            public long operate(int operation, int one, int other);
            public int state(int module, int what);
        }
        """;

    public static void main(String[] args) throws IOException, ReflectiveOperationException {
        Check c = new Check("face");
        Class<?> face = GateStack.class;
        c.due("public and final", face.getModifiers(), Modifier.PUBLIC | Modifier.FINAL);
        c.due("it extends nothing", face.getSuperclass() == Object.class ? 1 : 0, 1);
        c.due("interfaces", face.getInterfaces().length, 0);
        c.due("the package is unnamed", face.getPackageName().isEmpty() ? 1 : 0, 1);
        c.due("constructors", face.getDeclaredConstructors().length, 1);
        c.due("public constructors", face.getConstructors().length, 1);
        c.due("its parameters", face.getConstructors()[0].getParameterCount(), 0);
        c.due("methods " + methods(face), methods(face).equals(METHODS) ? 1 : 0, 1);
        c.due("constants " + constants(face), constants(face).equals(CONSTANTS) ? 1 : 0, 1);
        for (Class<?> inside : face.getDeclaredClasses()) {
            int kind = inside.getModifiers();
            c.due(inside.getName() + " is static", Modifier.isStatic(kind) ? 1 : 0, 1);
            c.due(inside.getName() + " is public", Modifier.isPublic(kind) ? 1 : 0, 0);
            c.due(inside.getName() + " is protected", Modifier.isProtected(kind) ? 1 : 0, 0);
        }
        sameLines(c, Files.readString(Path.of("src", "main", "java", "GateStack.java")));
        c.end();
    }

    /** The public lines of the file are those of the block: the names of the parameters too. */
    private static void sameLines(Check c, String file) {
        Set<String> block = publicLines(BLOCK.replace(");", ") {"));
        Set<String> found = publicLines(file);
        c.due("lines of the block", block.size(), 23);
        for (String line : block) {
            c.due("the file has " + line, found.contains(line) ? 1 : 0, 1);
        }
        for (String line : found) {
            c.due("the block has " + line, block.contains(line) ? 1 : 0, 1);
        }
    }

    private static Set<String> publicLines(String text) {
        Set<String> found = new TreeSet<>();
        text.lines().map(String::trim).filter(line -> line.startsWith("public ")).forEach(found::add);
        return found;
    }

    private static Set<String> methods(Class<?> face) {
        Set<String> found = new TreeSet<>();
        for (Method method : face.getDeclaredMethods()) {
            if (!Modifier.isPrivate(method.getModifiers())) {
                String whole = method.toString();
                String start = "public " + method.getReturnType() + " GateStack.";
                boolean plain = whole.startsWith(start);
                found.add(plain ? method.getReturnType() + " " + whole.substring(start.length()) : whole);
            }
        }
        return found;
    }

    private static Set<String> constants(Class<?> face) throws ReflectiveOperationException {
        Set<String> found = new TreeSet<>();
        for (Field field : face.getDeclaredFields()) {
            if (!Modifier.isPrivate(field.getModifiers())) {
                boolean constant = field.toString().startsWith("public static final ");
                found.add(constant ? field.getType() + " " + field.getName() + "=" + field.get(null)
                    : field.toString());
            }
        }
        return found;
    }
}
