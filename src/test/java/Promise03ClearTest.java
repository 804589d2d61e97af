public final class Promise03ClearTest {
    public static void main(String[] args) {
        Check c = new Check("clear");
        empties(c);
        refusesNumbersOutOfRange(c);
        loosens(c);
        keepsVariablesAndOutputs(c);
        c.end();
    }

    private static void empties(Check c) {
        GateStack x = Check.with("M{", "A{}", "B{}");
        c.due("clear", x.clear(0), GateStack.DONE);
        c.due("length", x.state(0, 0), 0);
        c.due("compiled", x.state(0, 1), 1);
        c.due("fault", x.fault(0), -2);
        c.due("length of another", x.state(1, 0), 3);
        c.due("compiled of another", x.state(1, 1), 0);
        c.due("sign behind it", x.sign(0, 'Z'), 1);
        c.due("fault of the new text", x.fault(0), 1);
    }

    private static void refusesNumbersOutOfRange(Check c) {
        GateStack x = Check.started("M{!1;}");
        int[] modules = {-1, 3, Integer.MIN_VALUE, Integer.MAX_VALUE};
        for (int module : modules) {
            c.due("module " + module, x.clear(module), GateStack.REFUSED);
        }
        c.due("length", x.state(0, 0), 6);
        c.dueLinkAndRun("refused clear", x, 1, true);
    }

    private static void loosens(Check c) {
        GateStack x = Check.started("M{!1;}", "A{}");
        c.due("clear of another", x.clear(1), GateStack.DONE);
        c.dueLinkAndRun("clear of another", x, 0, false);
        c.due("link without A", x.link(), 1);
        c.due("clear of M", x.clear(0), GateStack.DONE);
        c.due("the procedures are gone", x.link(), GateStack.MISSING);
        GateStack y = Check.started("M{!1;}");
        c.due("clear of an empty text", y.clear(2), GateStack.DONE);
        c.dueLinkAndRun("clear of an empty text", y, 0, false);
    }

    private static void keepsVariablesAndOutputs(Check c) {
        GateStack x = Check.started("M{a=7;!8;!9;}");
        x.run(2);
        x.clear(0);
        c.due("variable", x.get(0), 7);
        c.due("output", x.output(0), 8);
        c.due("outputs", x.at(3), 1);
    }
}
