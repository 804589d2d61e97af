public final class Edge10SetTest {
    public static void main(String[] args) {
        Check c = new Check("promise 10");
        variables(c);
        values(c);
        inARun(c);
        c.end();
    }

    private static void variables(Check c) {
        c.says("Variable 0 .. 7 (a .. h) gets the value");
        for (int variable = -3; variable <= 10; variable++) {
            boolean allowed = variable >= 0 && variable <= 7;
            GateStack x = new GateStack();
            c.due("set " + variable, x.set(variable, 5), allowed ? GateStack.DONE : GateStack.REFUSED);
            for (int other = 0; other < 8; other++) {
                c.due("get " + other + " after " + variable, x.get(other), other == variable ? 5 : 0);
            }
        }
    }

    private static void values(Check c) {
        c.says("gets the value: any int");
        int[] values = {Integer.MIN_VALUE, Integer.MIN_VALUE + 1, -10000, -1, 0, 1, 9999, 10000,
            Integer.MAX_VALUE - 1, Integer.MAX_VALUE};
        GateStack x = new GateStack();
        for (int value : values) {
            c.due("set 0 to " + value, x.set(0, value), GateStack.DONE);
            c.due("set 7 to " + value, x.set(7, value), GateStack.DONE);
            c.due("get 0", x.get(0), value);
            c.due("get 7", x.get(7), value);
            c.due("set 8 to " + value, x.set(8, value), GateStack.REFUSED);
            c.due("set -1 to " + value, x.set(-1, value), GateStack.REFUSED);
        }
    }

    private static void inARun(Check c) {
        c.says("while a run is going on as well. DONE");
        for (Situation situation : Situation.all()) {
            for (int variable = 0; variable < 8; variable++) {
                GateStack x = situation.maker.get();
                int place = x.at(1);
                c.due(situation.name, x.set(variable, 1234), GateStack.DONE);
                c.due(situation.name + ", get", x.get(variable), 1234);
                c.due(situation.name + ", place", x.at(1), place);
                c.dueLinkAndRun(situation.name, x, situation.linked ? 1 : 0, situation.going);
            }
        }
        c.says("the run goes on with the value");
        GateStack x = Check.started("M{a=1;@a{!a;}!h;}");
        x.run(3);
        x.set(0, 0);
        x.set(7, 8);
        c.due("the loop ends", x.run(2), 0);
        c.due("first output", x.output(0), 1);
        c.due("last output", x.output(1), 8);
        c.due("outputs", x.at(3), 2);
    }
}
