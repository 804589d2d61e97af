public final class Promise02SignTest {
    public static void main(String[] args) {
        Check c = new Check("sign");
        answersTheLength(c);
        refusesNumbersOutOfRange(c);
        refusesTheSixtyFirst(c);
        loosens(c);
        c.end();
    }

    private static void answersTheLength(Check c) {
        GateStack x = new GateStack();
        c.due("sign 0", x.sign(0, 'M'), 1);
        c.due("sign 0 again", x.sign(0, '{'), 2);
        c.due("sign 2", x.sign(2, '}'), 1);
        c.due("code 33", x.sign(1, 33), 1);
        c.due("code 126", x.sign(1, 126), 2);
        c.due("compiled 0", x.state(0, 1), 0);
        c.due("fault 0", x.fault(0), 2);
        c.due("fault 2", x.fault(2), 0);
    }

    private static void refusesNumbersOutOfRange(Check c) {
        GateStack x = Check.started("M{!1;}");
        int[] modules = {-1, 3, Integer.MIN_VALUE, Integer.MAX_VALUE};
        for (int module : modules) {
            c.due("module " + module, x.sign(module, 'A'), GateStack.REFUSED);
        }
        int[] codes = {32, 127, 0, -1, 33 + 65536, 77 - 256, Integer.MIN_VALUE, Integer.MAX_VALUE};
        for (int code : codes) {
            c.due("code " + code, x.sign(0, code), GateStack.REFUSED);
        }
        c.due("length", x.state(0, 0), 6);
        c.due("compiled", x.state(0, 1), 1);
        c.dueLinkAndRun("refused sign", x, 1, true);
    }

    private static void refusesTheSixtyFirst(Check c) {
        GateStack x = Check.with("M{!1111;!1111;!1111;!1111;!1111;!1111;!1111;!1111;!1111;!1;}");
        c.due("sixty signs", x.state(0, 0), 60);
        c.due("compile", x.compile(0), 1);
        c.due("link", x.link(), 1);
        c.due("start", x.start(), 1);
        c.due("the sixty-first", x.sign(0, 'A'), GateStack.REFUSED);
        c.due("length", x.state(0, 0), 60);
        c.due("compiled", x.state(0, 1), 1);
        c.dueLinkAndRun("the sixty-first", x, 1, true);
        c.due("another module", x.sign(1, 'A'), 1);
    }

    private static void loosens(Check c) {
        GateStack x = Check.started("M{!1;}");
        c.due("sign elsewhere", x.sign(2, 'A'), 1);
        c.dueLinkAndRun("sign elsewhere", x, 0, false);
        c.due("compiled 0", x.state(0, 1), 1);
        c.due("compiled 1", x.state(1, 1), 1);
        c.due("compiled 2", x.state(2, 1), 0);
        c.due("run", x.run(1), GateStack.REFUSED);
        c.due("start", x.start(), GateStack.REFUSED);
        c.due("link", x.link(), GateStack.REFUSED);
    }
}
