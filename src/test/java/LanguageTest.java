import java.io.IOException;
import java.lang.reflect.Array;
import java.lang.reflect.Field;
import java.lang.reflect.Method;
import java.lang.reflect.Modifier;
import java.nio.file.Files;
import java.nio.file.Path;
import java.util.ArrayList;
import java.util.Collections;
import java.util.IdentityHashMap;
import java.util.List;
import java.util.Map;
import java.util.Set;
import java.util.TreeMap;
import java.util.TreeSet;
import java.util.regex.Matcher;
import java.util.regex.Pattern;

/** The rules of ../shared/LANGUAGE.md that can be seen in the file or in its compiled classes. */
public final class LanguageTest {
    private static final Path FILE = Path.of("src", "main", "java", "GateStack.java");
    private static final Pattern HEADER = Pattern.compile(
        "(?:public |private |static |final )*(?:\\w+(?:\\[\\])* )?(\\w+)\\(([^()]*)\\) \\{");
    private static final Set<String> NO_METHODS = Set.of("if", "for", "while", "switch");
    private static final Set<String> LIBRARY = Set.of("Integer", "Long", "Math", "Arrays");
    private static final Set<Class<?>> CONSTANTS = Set.of(int.class, long.class, boolean.class,
        char.class, String.class, int[].class, long[].class, char[].class, byte[].class);

    private final Check check = new Check("language");
    private final String code;
    private final List<Class<?>> classes = new ArrayList<>();
    private final Map<String, String> bodies = new TreeMap<>();

    private LanguageTest(String source) {
        code = withoutTexts(source);
        classes.add(GateStack.class);
        classes.addAll(List.of(GateStack.class.getDeclaredClasses()));
        readBodies();
    }

    public static void main(String[] args) throws IOException, IllegalAccessException {
        LanguageTest test = new LanguageTest(Files.readString(FILE));
        test.members();
        test.fields();
        test.types();
        test.words();
        test.sizes();
        test.objectsAreMadeAtFirst();
        test.objectsAreSmall();
        test.depthOfCalls();
        test.check.end();
    }

    /** Comments, texts and characters are blanked, so that no brace or word in them counts. */
    private static String withoutTexts(String source) {
        return source.replaceAll("(?s)/\\*.*?\\*/", "").replaceAll("//[^\n]*", "")
            .replaceAll("'(\\\\.|[^'\\\\])'", "' '").replaceAll("\"(\\\\.|[^\"\\\\])*\"", "\"\"");
    }

    private void readBodies() {
        Matcher header = HEADER.matcher(code);
        while (header.find()) {
            String name = header.group(1);
            if (!NO_METHODS.contains(name)) {
                bodies.merge(name, code.substring(header.end(), endOf(header.end())), String::concat);
            }
        }
    }

    private int endOf(int start) {
        int place = start;
        for (int open = 1; place < code.length() && open > 0; place++) {
            open += code.charAt(place) == '{' ? 1 : code.charAt(place) == '}' ? -1 : 0;
        }
        return place;
    }

    private void holds(String rule, boolean holds) {
        check.due(rule, holds ? 1 : 0, 1);
    }

    private void members() {
        check.says("1, 2: the face, and classes inside");
        Set<String> names = new TreeSet<>();
        for (Method method : GateStack.class.getMethods()) {
            names.add(method.getName());
        }
        for (Class<?> one : classes) {
            for (Method method : one.getDeclaredMethods()) {
                boolean open = Modifier.isPublic(method.getModifiers());
                holds(one + " " + method.getName() + " is no public name", open || !names.contains(method.getName()));
            }
            holds(one + " is static", one == GateStack.class || Modifier.isStatic(one.getModifiers()));
        }
        check.says("11: at most seven parameters, some twelve classes");
        for (Class<?> one : classes) {
            for (Method method : one.getDeclaredMethods()) {
                holds(method + " has at most seven parameters", method.getParameterCount() <= 7);
            }
        }
        holds("at most twelve classes", classes.size() <= 12);
    }

    private void fields() {
        for (Class<?> one : classes) {
            int count = 0;
            check.says("5: static fields are final");
            for (Field field : one.getDeclaredFields()) {
                if (Modifier.isStatic(field.getModifiers())) {
                    holds(field + " is final", Modifier.isFinal(field.getModifiers()));
                    holds(field + " is a constant", CONSTANTS.contains(field.getType()));
                } else {
                    count++;
                }
            }
            check.says("11: a class has some twenty fields beside its constants");
            holds(one + " has " + count, count <= 20);
        }
    }

    private void types() {
        check.says("3: types");
        for (Class<?> one : classes) {
            for (Field field : one.getDeclaredFields()) {
                holds(field + " has a type of the rules", isKnownType(field.getType()));
            }
            for (Method method : one.getDeclaredMethods()) {
                boolean known = method.getReturnType() == void.class || isKnownType(method.getReturnType());
                for (Class<?> type : method.getParameterTypes()) {
                    known = known && isKnownType(type);
                }
                holds(method + " has types of the rules", known);
            }
        }
    }

    /** Numbers and truth, the class's own classes, and rows of these. */
    private boolean isKnownType(Class<?> type) {
        Class<?> element = type.isArray() ? type.getComponentType() : type;
        return element.isPrimitive() || classes.contains(element);
    }

    private void words() {
        check.says("2, 6, 13: words that may not stand");
        String[] words = {"import", "package", "throw", "throws", "try", "catch", "synchronized", "assert",
            "System", "Thread", "Random", "protected", "equals", "hashCode", "toString", "volatile", "native"};
        for (String word : words) {
            holds("no " + word, !Pattern.compile("\\b" + word + "\\b").matcher(code).find());
        }
        holds("no lambda", !code.contains("->"));
        holds("no method reference", !code.contains("::"));
        check.says("4: the library");
        Set<String> own = new TreeSet<>(LIBRARY);
        for (Class<?> one : classes) {
            own.add(one.getSimpleName());
        }
        Matcher name = Pattern.compile("\\b([A-Z]\\w*[a-z]\\w*)\\b").matcher(code);
        while (name.find()) {
            holds(name.group(1) + " is known", own.contains(name.group(1)));
        }
    }

    private void sizes() {
        check.says("11: methods stay short (some sixty lines)");
        holds("the methods are found", bodies.size() > 40 && bodies.containsKey("placeBehind"));
        for (Map.Entry<String, String> body : bodies.entrySet()) {
            holds(body.getKey(), body.getValue().lines().count() <= 60);
        }
    }

    private void objectsAreMadeAtFirst() {
        check.says("12: what a run makes is kept small: no call after the constructor makes an object");
        for (Map.Entry<String, String> body : bodies.entrySet()) {
            boolean makes = Pattern.compile("\\bnew\\b").matcher(body.getValue()).find();
            holds(body.getKey() + " makes none", !makes || body.getKey().equals("GateStack"));
        }
    }

    /** Some thousand objects have to live in a room of 7.3 million fields and elements. */
    private void objectsAreSmall() throws IllegalAccessException {
        check.says("12: what is kept is counted");
        Set<Object> seen = Collections.newSetFromMap(new IdentityHashMap<>());
        int inside = roomOf(new GateStack(), seen);
        holds("an object keeps " + seen.size() + " objects and rows", seen.size() <= 60);
        holds("they have " + inside + " fields and elements", inside > 180 && inside <= 1500);
    }

    private int roomOf(Object one, Set<Object> seen) throws IllegalAccessException {
        if (one == null || !seen.add(one)) {
            return 0;
        }
        if (one.getClass().isArray()) {
            int room = Array.getLength(one);
            for (int i = 0; one instanceof Object[] && i < Array.getLength(one); i++) {
                room += roomOf(Array.get(one, i), seen);
            }
            return room;
        }
        int room = 0;
        for (Field field : one.getClass().getDeclaredFields()) {
            if (!Modifier.isStatic(field.getModifiers())) {
                field.setAccessible(true);
                room += 1 + (field.getType().isPrimitive() ? 0 : roomOf(field.get(one), seen));
            }
        }
        return room;
    }

    private void depthOfCalls() {
        check.says("8, 11: calls that are no recursion go at most eight deep");
        int deepest = 0;
        for (String name : bodies.keySet()) {
            deepest = Math.max(deepest, depthFrom(name, new ArrayList<>()));
        }
        holds("the deepest chain has " + deepest, deepest > 1 && deepest <= 8);
        check.says("8: recursion only where the depth is carried");
        for (String name : bodies.keySet()) {
            boolean again = calls(name).stream().anyMatch(next -> reaches(next, name, new TreeSet<>()));
            holds(name + " calls itself", again == Set.of("expression", "operand").contains(name));
        }
    }

    private Set<String> calls(String name) {
        Set<String> found = new TreeSet<>();
        Matcher call = Pattern.compile("\\b(\\w+)\\(").matcher(bodies.get(name));
        while (call.find()) {
            // A constructor is called behind new; its class here has no body of its own to follow.
            if (bodies.containsKey(call.group(1))) {
                found.add(call.group(1));
            }
        }
        return found;
    }

    private int depthFrom(String name, List<String> above) {
        int deepest = 0;
        above.add(name);
        for (String next : calls(name)) {
            if (!above.contains(next)) {
                deepest = Math.max(deepest, depthFrom(next, above));
            }
        }
        above.remove(above.size() - 1);
        return deepest + 1;
    }

    private boolean reaches(String from, String to, Set<String> seen) {
        return from.equals(to) || seen.add(from)
            && calls(from).stream().anyMatch(next -> reaches(next, to, seen));
    }
}
