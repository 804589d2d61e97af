public final class Promise10SetTest {
    public static void main(String[] args) {
        Check c = new Check("set");
        GateStack x = new GateStack();
        int[] values = {1, -1, Integer.MIN_VALUE, Integer.MAX_VALUE, 0, -1000000000, 7, 8};
        for (int variable = 0; variable < 8; variable++) {
            c.due("set " + variable, x.set(variable, values[variable]), GateStack.DONE);
        }
        int[] wrong = {-1, 8, Integer.MIN_VALUE, Integer.MAX_VALUE};
        for (int variable : wrong) {
            c.due("set " + variable, x.set(variable, 99), GateStack.REFUSED);
        }
        for (int variable = 0; variable < 8; variable++) {
            c.due("get " + variable, x.get(variable), values[variable]);
        }
        inARun(c);
        c.end();
    }

    private static void inARun(Check c) {
        GateStack x = Check.started("M{a=1;!a;!h;}");
        x.run(1);
        c.due("set in a run", x.set(0, 50), GateStack.DONE);
        c.due("set h in a run", x.set(7, -60), GateStack.DONE);
        c.dueLinkAndRun("set", x, 1, true);
        c.due("statement", x.at(1), 2);
        Check.runToEnd(x);
        c.due("output 0", x.output(0), 50);
        c.due("output 1", x.output(1), -60);
    }
}
