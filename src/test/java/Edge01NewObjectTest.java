import java.util.List;

public final class Edge01NewObjectTest {
    public static void main(String[] args) {
        Check c = new Check("promise 1");
        GateStack x = new GateStack();
        c.says("Empty texts");
        for (int module = 0; module < 3; module++) {
            c.due("length " + module, x.state(module, 0), 0);
            c.due("fault " + module, x.fault(module), -2);
            c.due("compiled " + module, x.state(module, 1), 1);
        }
        c.says("variables 0");
        for (int variable = 0; variable < 8; variable++) {
            c.due("variable " + variable, x.get(variable), 0);
        }
        c.says("no outputs");
        c.due("outputs", x.at(3), 0);
        for (int i = 0; i < 24; i++) {
            c.due("output " + i, x.output(i), GateStack.NONE);
        }
        c.says("no run, not LINKED");
        for (int what = 0; what < 3; what++) {
            c.due("at " + what, x.at(what), 0);
            c.due("linked " + what, x.state(what, 2), 0);
        }
        afterOthers(c);
        c.end();
    }

    private static void afterOthers(Check c) {
        c.says("a new object is so whatever others did");
        List<Long> first = Trace.seen(new GateStack());
        for (Situation situation : Situation.all()) {
            GateStack other = situation.maker.get();
            List<Long> now = Trace.seen(new GateStack());
            c.due("beside " + situation.name, now.equals(first) ? 1 : 0, 1);
            c.due("clear of the other", other.clear(0), GateStack.DONE);
        }
    }
}
