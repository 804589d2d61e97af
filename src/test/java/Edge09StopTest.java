public final class Edge09StopTest {
    public static void main(String[] args) {
        Check c = new Check("promise 9");
        none(c);
        ends(c);
        c.end();
    }

    private static void none(Check c) {
        c.says("None is going on: REFUSED");
        for (Situation situation : Situation.all()) {
            GateStack x = situation.maker.get();
            c.due(situation.name, x.stop(), situation.going ? GateStack.DONE : GateStack.REFUSED);
            c.due(situation.name + ", twice", x.stop(), GateStack.REFUSED);
            c.dueLinkAndRun(situation.name, x, situation.linked ? 1 : 0, false);
        }
    }

    private static void ends(Check c) {
        c.says("The run ends. DONE");
        for (int steps = 0; steps <= 4; steps++) {
            GateStack x = Check.started("M{a=4;!5;A;}A{!6;}");
            for (int i = 0; i < steps; i++) {
                x.run(1);
            }
            String what = "stop after " + steps + " steps";
            c.due(what, x.stop(), steps < 4 ? GateStack.DONE : GateStack.REFUSED);
            c.dueLinkAndRun(what, x, 1, false);
            for (int i = 0; i < 3; i++) {
                c.due(what + ", at " + i, x.at(i), 0);
            }
            c.due(what + ", run", x.run(1), GateStack.REFUSED);
            c.due(what + ", variable", x.get(0), steps > 0 ? 4 : 0);
            c.due(what + ", outputs", x.at(3), steps < 2 ? 0 : steps < 4 ? 1 : 2);
            c.due(what + ", output 0", x.output(0), steps < 2 ? GateStack.NONE : 5);
            c.due(what + ", start", x.start(), 1);
            c.due(what + ", from the first", x.at(1), 1);
        }
    }
}
