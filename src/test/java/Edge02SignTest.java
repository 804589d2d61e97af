public final class Edge02SignTest {
    public static void main(String[] args) {
        Check c = new Check("promise 2");
        modulesAndCodes(c);
        fullText(c);
        notCompiled(c);
        atTheEnd(c);
        c.end();
    }

    private static void modulesAndCodes(Check c) {
        c.says("a sign, code 33 .. 126, at the end of the text of module 0 .. 2");
        for (int module = -2; module <= 4; module++) {
            boolean isModule = module >= 0 && module <= 2;
            for (int code : new int[] {32, 33, 34, 125, 126, 127}) {
                boolean isCode = code >= 33 && code <= 126;
                GateStack x = new GateStack();
                int want = isModule && isCode ? 1 : GateStack.REFUSED;
                c.due("sign " + module + " " + code, x.sign(module, code), want);
                for (int other = 0; other < 3; other++) {
                    int length = want == 1 && other == module ? 1 : 0;
                    c.due("length " + other, x.state(other, 0), length);
                }
            }
        }
    }

    private static void fullText(Check c) {
        c.says("it has 60 signs: REFUSED");
        for (int module = 0; module < 3; module++) {
            GateStack x = new GateStack();
            Check.put(x, module, Situation.FULL.substring(0, 59));
            c.due("59 signs", x.state(module, 0), 59);
            c.due("the 60th", x.sign(module, '}'), 60);
            c.due("the 61st", x.sign(module, '}'), GateStack.REFUSED);
            c.due("the 61st again", x.sign(module, '!'), GateStack.REFUSED);
            c.due("length", x.state(module, 0), 60);
            c.due("the text is as it was", x.fault(module), -2);
            c.due("it can be compiled", x.compile(module), 1);
            c.due("the 61st once more", x.sign(module, 'A'), GateStack.REFUSED);
            c.due("still compiled", x.state(module, 1), 1);
            c.due("room elsewhere", x.sign((module + 1) % 3, 'A'), 1);
        }
    }

    private static void notCompiled(Check c) {
        c.says("The module is not COMPILED");
        for (int module = 0; module < 3; module++) {
            GateStack x = new GateStack();
            x.sign(module, 'A');
            for (int other = 0; other < 3; other++) {
                c.due("compiled " + other, x.state(other, 1), other == module ? 0 : 1);
            }
            Check.put(x, module, "{}");
            c.due("a whole text is not yet compiled", x.state(module, 1), 0);
            x.compile(module);
            c.due("compiled", x.state(module, 1), 1);
            x.sign(module, 'B');
            c.due("written on", x.state(module, 1), 0);
        }
    }

    private static void atTheEnd(Check c) {
        c.says("Puts a sign at the end of the text. Answers the text's length");
        GateStack x = new GateStack();
        String text = "M{!12;}";
        for (int i = 0; i < text.length(); i++) {
            c.due("sign " + i, x.sign(1, text.charAt(i)), i + 1);
            c.due("fault " + i, x.fault(1), i == 6 ? -2 : i + 1);
        }
        x.compile(1);
        x.link();
        x.start();
        x.run(1);
        c.due("output", x.output(0), 12);
        Check.put(x, 1, "A{}");
        c.due("one more procedure", x.compile(1), 2);
    }
}
