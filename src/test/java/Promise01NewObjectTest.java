public final class Promise01NewObjectTest {
    public static void main(String[] args) {
        Check c = new Check("new object");
        GateStack x = new GateStack();
        for (int module = 0; module < 3; module++) {
            c.due("length of " + module, x.state(module, 0), 0);
            c.due("compiled " + module, x.state(module, 1), 1);
            c.due("linked " + module, x.state(module, 2), 0);
            c.due("fault of " + module, x.fault(module), -2);
        }
        for (int variable = 0; variable < 8; variable++) {
            c.due("get " + variable, x.get(variable), 0);
        }
        for (int i = 0; i < 24; i++) {
            c.due("output " + i, x.output(i), GateStack.NONE);
        }
        for (int what = 0; what < 4; what++) {
            c.due("at " + what, x.at(what), 0);
        }
        c.due("start", x.start(), GateStack.REFUSED);
        c.due("run", x.run(1), GateStack.REFUSED);
        c.due("stop", x.stop(), GateStack.REFUSED);
        c.due("link", x.link(), GateStack.MISSING);
        objectsAreApart(c);
        c.end();
    }

    private static void objectsAreApart(Check c) {
        GateStack one = Check.started("M{!1;}");
        GateStack other = new GateStack();
        one.set(0, 5);
        c.due("text of the other", other.state(0, 0), 0);
        c.due("variable of the other", other.get(0), 0);
        c.due("link of the other", other.state(0, 2), 0);
        c.due("run of the other", other.at(2), 0);
        c.due("run of the one", one.at(2), 1);
    }
}
