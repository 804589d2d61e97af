import java.io.IOException;
import java.lang.reflect.Method;
import java.lang.reflect.Modifier;
import java.net.URL;
import java.net.URLClassLoader;
import java.nio.file.Files;
import java.nio.file.Path;
import java.util.regex.Matcher;
import java.util.regex.Pattern;

/** What README.md shows as an example is Java that compiles, and answers as it says. */
public final class ReadmeTest {
    private static final Pattern BLOCK = Pattern.compile("(?ms)^```java\n(.*?)^```$");
    /** A call with what it answers behind it, and mostly words behind that. */
    private static final Pattern ANSWERED = Pattern.compile("(x\\.\\w+\\(.*\\)); +// (\\S+?)(?:: .*)?");
    private static final String START = "public final class Example {\n"
        + "private static int wrong;\n"
        + "private static void due(String call, long got, long want) {\n"
        + "if (got != want) {\n"
        + "wrong++;\n"
        + "System.out.println(\"README: \" + call + \" answered \" + got + \", shown is \" + want);\n"
        + "}\n}\n";

    private final Check check = new Check("README");
    private final StringBuilder members = new StringBuilder();
    private final StringBuilder bodies = new StringBuilder();
    private int answers;

    public static void main(String[] args) throws Exception {
        ReadmeTest test = new ReadmeTest();
        test.read(Files.readString(Path.of("README.md")));
        test.showsEveryCall();
        test.compileAndRun();
        test.check.end();
    }

    private void read(String readme) {
        Matcher block = BLOCK.matcher(readme);
        while (block.find()) {
            if (block.group(1).startsWith("static ")) {
                members.append(block.group(1));
            } else {
                bodies.append("{\n");
                block.group(1).lines().forEach(line -> bodies.append(asking(line)).append('\n'));
                bodies.append("}\n");
            }
        }
    }

    private String asking(String line) {
        Matcher call = ANSWERED.matcher(line);
        if (!call.matches()) {
            check.due("an answer is shown in " + line, line.contains("//") ? 0 : 1, 1);
            return line;
        }
        answers++;
        return "due(\"" + call.group(1) + "\", " + call.group(1) + ", " + call.group(2) + ");";
    }

    private void showsEveryCall() {
        check.due("so many answers are shown", answers > 50 ? 1 : 0, 1);
        for (Method method : GateStack.class.getDeclaredMethods()) {
            if (Modifier.isPublic(method.getModifiers())) {
                boolean shown = bodies.indexOf("due(\"x." + method.getName() + "(") >= 0;
                check.due("an example has " + method.getName(), shown ? 1 : 0, 1);
            }
        }
    }

    private void compileAndRun() throws Exception {
        Path room = Files.createTempDirectory("readme");
        Path source = room.resolve("Example.java");
        Files.writeString(source, START + members + "public static int go() {\n" + bodies + "return wrong;\n}\n}\n");
        int code = new ProcessBuilder("javac", "--release", "17", "-cp", System.getProperty("java.class.path"),
            "-d", room.toString(), source.toString()).inheritIO().start().waitFor();
        check.due("compiling the examples", code, 0);
        if (code == 0) {
            check.due("answers that are not as shown", wrongAnswers(room), 0);
        }
        Files.delete(source);
        Files.deleteIfExists(room.resolve("Example.class"));
        Files.delete(room);
    }

    private static int wrongAnswers(Path room) throws IOException, ReflectiveOperationException {
        try (URLClassLoader loader = new URLClassLoader(new URL[] {room.toUri().toURL()})) {
            return (Integer) loader.loadClass("Example").getMethod("go").invoke(null);
        }
    }
}
