import java.util.Random;

/** Many runs of calls, made up from fixed seeds, on the class and on the model side by side. */
public final class ModelTest {
    private static final int RUNS = 4000;
    private static final int CALLS = 512;
    private static final String SIGNS = "ABMabh!?@{}():;=+-&|^<~0129iz*";

    private final Check check = new Check("model");
    private final Random random;
    private final GateStack real = new GateStack();
    private final Model model = new Model();
    private final int run;
    private String chain = "M";
    private int calls;

    private ModelTest(int run) {
        this.run = run;
        this.random = new Random(run);
    }

    public static void main(String[] args) {
        for (int run = 0; run < RUNS; run++) {
            ModelTest test = new ModelTest(run);
            test.go();
            test.check.end();
        }
    }

    private void go() {
        if (random.nextInt(4) != 0) {
            program();
        }
        while (calls < CALLS) {
            int kind = random.nextInt(200);
            if (kind < 2) {
                program();
            } else if (kind == 2) {
                write(random.nextInt(3), module());
            } else if (kind == 3) {
                write(random.nextInt(3), spoiled(module()));
            } else if (kind < 150) {
                goOn();
            } else {
                anyCall();
            }
        }
    }

    /** Fills the modules, compiles and links them, and starts. */
    private void program() {
        String[] texts = {"", "", ""};
        chain = shuffledLetters();
        for (int i = 0; i < chain.length(); i++) {
            int module = random.nextInt(3);
            String procedure = procedure(chain.charAt(i));
            int room = 60 - texts[module].length();
            for (int tries = 0; tries < 9 && procedure.length() > room; tries++) {
                procedure = procedure(chain.charAt(i));
            }
            texts[module] += procedure.length() <= room ? procedure : chain.charAt(i) + "{}";
        }
        for (int module = 0; module < 3; module++) {
            clear(module);
            write(module, texts[module]);
        }
        link();
        start();
    }

    /** M and some other letters: a procedure mostly calls those that stand behind it here. */
    private String shuffledLetters() {
        StringBuilder letters = new StringBuilder("M");
        for (int i = random.nextInt(random.nextInt(3) == 0 ? 16 : 7); i > 0; i--) {
            char letter = (char) ('A' + random.nextInt(26));
            if (letters.indexOf("" + letter) < 0) {
                letters.append(letter);
            }
        }
        return letters.toString();
    }

    private void goOn() {
        if (model.state(0, 2) == 0 && random.nextInt(20) == 0) {
            program();
        }
        if (model.at(2) == 0) {
            start();
        }
        int steps = 1 + 3 * random.nextInt(2);
        due("run " + steps, real.run(steps), model.run(steps));
        lookAround();
    }

    private void lookAround() {
        int what = random.nextInt(4);
        due("at " + what, real.at(what), model.at(what));
        int variable = random.nextInt(8);
        due("get " + variable, real.get(variable), model.get(variable));
        int last = model.at(3) - 1;
        due("output " + last, real.output(last), model.output(last));
    }

    private void anyCall() {
        int module = random.nextInt(40) == 0 ? odd() : random.nextInt(3);
        int small = random.nextInt(10) == 0 ? odd() : random.nextInt(5);
        int value = random.nextInt(3) == 0 ? odd() : random.nextInt(5) - 2;
        switch (random.nextInt(40)) {
            case 0: change(module); break;
            case 1: sign(module, random.nextInt(2) == 0 ? 32 : 127); break;
            case 2: case 3: case 4: case 5:
                due("fault " + module, real.fault(module), model.fault(module)); break;
            case 6: case 7: link(); break;
            case 8: case 9: case 10: start(); break;
            case 11: due("stop", real.stop(), model.stop()); break;
            case 12: case 13: case 14: case 15:
                due("set " + small, real.set(small, value), model.set(small, value)); break;
            case 16:
                due("operate " + small, real.operate(small, value, 3), model.operate(small, value, 3));
                break;
            case 17: case 18: case 19: case 20:
                due("state " + module, real.state(module, small), model.state(module, small)); break;
            case 21: case 22: due("output " + small, real.output(small), model.output(small)); break;
            case 23: due("get " + small, real.get(small), model.get(small)); break;
            case 24: due("at " + small, real.at(small), model.at(small)); break;
            default: due("run " + small, real.run(small), model.run(small)); break;
        }
    }

    private void change(int module) {
        switch (random.nextInt(4)) {
            case 0: sign(module, SIGNS.charAt(random.nextInt(SIGNS.length()))); break;
            case 1: sign(module, odd()); break;
            case 2: clear(module); break;
            default: compile(module); break;
        }
    }

    private int odd() {
        int[] edges = {-1, 3, 4, 5, 6, 7, 8, 23, 24, 32, 33, 126, 127, Integer.MIN_VALUE, Integer.MAX_VALUE};
        return random.nextInt(2) == 0 ? edges[random.nextInt(edges.length)] : random.nextInt();
    }

    private void write(int module, String text) {
        if (random.nextInt(4) != 0) {
            clear(module);
        }
        for (int i = 0; i < text.length() && calls < CALLS; i++) {
            sign(module, text.charAt(i));
            if (random.nextInt(30) == 0) {
                due("fault", real.fault(module), model.fault(module));
            }
        }
        due("fault of " + text, real.fault(module), model.fault(module));
        compile(module);
    }

    private void sign(int module, int code) {
        due("sign " + module + " " + code, real.sign(module, code), model.sign(module, code));
    }

    private void clear(int module) {
        due("clear " + module, real.clear(module), model.clear(module));
    }

    private void compile(int module) {
        due("compile " + module, real.compile(module), model.compile(module));
    }

    private void link() {
        due("link", real.link(), model.link());
    }

    private void start() {
        due("start", real.start(), model.start());
    }

    private void due(String what, long got, long want) {
        calls++;
        if (calls <= CALLS) {
            check.due("run " + run + ", call " + calls + ", " + what, got, want);
        }
    }

    private String spoiled(String text) {
        StringBuilder signs = new StringBuilder(text);
        int place = random.nextInt(text.length() + 1);
        signs.insert(place, SIGNS.charAt(random.nextInt(SIGNS.length())));
        if (random.nextInt(2) == 0) {
            signs.deleteCharAt(random.nextInt(signs.length()));
        }
        return signs.toString();
    }

    private String module() {
        StringBuilder text = new StringBuilder();
        for (int i = random.nextInt(5); i >= 0; i--) {
            String procedure = procedure((char) ('A' + random.nextInt(26)));
            if (text.length() + procedure.length() <= 60) {
                text.append(procedure);
            }
        }
        return text.toString();
    }

    private String procedure(char name) {
        return name + "{" + statements(name, 1) + "}";
    }

    private String statements(char name, int depth) {
        StringBuilder text = new StringBuilder();
        int fewest = depth == 1 && random.nextInt(20) != 0 ? 1 : 0;
        for (int i = fewest + random.nextInt(4); i > 0; i--) {
            text.append(statement(name, depth));
        }
        return text.toString();
    }

    private String statement(char name, int depth) {
        char variable = (char) ('a' + random.nextInt(random.nextInt(3) == 0 ? 8 : 2));
        switch (random.nextInt(depth < 6 ? 10 : 6)) {
            case 0: case 1: return variable + "=" + expression(depth) + ";";
            case 2: case 3: return "!" + expression(depth) + ";";
            case 4: case 5: return callFrom(name);
            case 6: return "@" + expression(depth) + "{" + statements(name, depth + 1) + "}";
            case 7: return "?" + expression(depth) + "{" + statements(name, depth + 1) + "}";
            default: return "?" + expression(depth) + "{" + statements(name, depth + 1) + "}:{"
                + statements(name, depth + 1) + "}";
        }
    }

    private String callFrom(char name) {
        if (random.nextInt(200) == 0) {
            return (char) ('A' + random.nextInt(26)) + ";";
        }
        int first = random.nextInt(40) == 0 ? 0 : chain.indexOf(name) + 1;
        int left = chain.length() - first;
        return left > 0 ? chain.charAt(first + random.nextInt(left)) + ";" : "!1;";
    }

    private String expression(int depth) {
        StringBuilder text = new StringBuilder(operand(depth));
        for (int i = random.nextInt(3); i > 0; i--) {
            text.append("+-&|^<=".charAt(random.nextInt(7))).append(operand(depth));
        }
        return text.toString();
    }

    private String operand(int depth) {
        boolean mayOpen = depth < 6 || random.nextInt(20) == 0;
        switch (random.nextInt(mayOpen ? 9 : 5)) {
            case 0: return String.valueOf(random.nextInt(3));
            case 1: return String.valueOf(random.nextInt(random.nextInt(10) == 0 ? 10100 : 10000));
            case 5: return "~" + operand(depth + 1);
            case 6: return "-" + operand(depth + 1);
            case 7: return "(" + expression(depth + 1) + ")";
            default: return String.valueOf((char) ('a' + random.nextInt(3)));
        }
    }
}
