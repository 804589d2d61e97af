public final class Promise07StartTest {
    public static void main(String[] args) {
        Check c = new Check("start");
        refuses(c);
        GateStack x = Check.linked("A{!1;}", "M{!2;!3;}");
        c.due("start", x.start(), 1);
        c.due("procedure", x.at(0), 'M');
        c.due("statement", x.at(1), 1);
        c.due("depth", x.at(2), 1);
        Check.runToEnd(x);
        c.due("outputs", x.at(3), 2);
        c.due("start again", x.start(), 1);
        c.due("no outputs any more", x.at(3), 0);
        c.due("output 0 is gone", x.output(0), GateStack.NONE);
        nothingToDo(c);
        c.end();
    }

    private static void refuses(Check c) {
        c.due("not linked", Check.compiled("M{!1;}").start(), GateStack.REFUSED);
        GateStack x = Check.started("M{!1;!2;}");
        x.run(1);
        c.due("in a run", x.start(), GateStack.REFUSED);
        c.due("the run goes on", x.at(1), 2);
        c.due("outputs stay", x.output(0), 1);
        x.clear(0);
        c.due("not linked any more", x.start(), GateStack.REFUSED);
        c.due("outputs stay when refused", x.at(3), 1);
    }

    private static void nothingToDo(Check c) {
        GateStack x = Check.linked("M{}A{!1;}");
        c.due("empty M", x.start(), 0);
        c.due("not going on", x.at(2), 0);
        c.due("run", x.run(1), GateStack.REFUSED);
        c.due("empty M again", x.start(), 0);
        c.due("linked", x.state(0, 2), 1);
        GateStack y = Check.started("M{!1;}");
        y.run(1);
        y.clear(0);
        Check.put(y, 0, "M{}");
        y.compile(0);
        y.link();
        c.due("outputs until then", y.at(3), 1);
        c.due("empty M behind another", y.start(), 0);
        c.due("no outputs any more", y.at(3), 0);
        c.due("a call of an empty one is a step", Check.linked("M{A;}A{}").start(), 1);
        c.due("a test is a step", Check.linked("M{?0{}}").start(), 1);
        c.due("a loop's test too", Check.linked("M{@0{}}").start(), 1);
    }
}
