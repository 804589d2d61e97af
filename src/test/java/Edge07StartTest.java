public final class Edge07StartTest {
    public static void main(String[] args) {
        Check c = new Check("promise 7");
        notLinked(c);
        goingOn(c);
        noOutputs(c);
        nothingToDo(c);
        fromTheFirst(c);
        c.end();
    }

    private static void notLinked(Check c) {
        c.says("Not LINKED: REFUSED");
        c.due("new", new GateStack().start(), GateStack.REFUSED);
        c.due("written", Check.with("M{!1;}").start(), GateStack.REFUSED);
        c.due("compiled", Check.compiled("M{!1;}").start(), GateStack.REFUSED);
        c.due("no M", Check.linked("A{!1;}").start(), GateStack.REFUSED);
        c.due("linked", Check.linked("M{!1;}").start(), 1);
        for (Situation situation : Situation.all()) {
            boolean refused = !situation.linked || situation.going;
            int answer = situation.maker.get().start();
            c.due(situation.name, answer == GateStack.REFUSED ? 1 : 0, refused ? 1 : 0);
        }
    }

    private static void goingOn(Check c) {
        c.says("or a run is going on: REFUSED");
        GateStack x = Check.started("M{!1;!2;!3;}");
        for (int done = 0; done < 3; done++) {
            c.due("start after " + done + " steps", x.start(), GateStack.REFUSED);
            c.due("its place", x.at(1), done + 1);
            c.due("its outputs", x.at(3), done);
            x.run(1);
        }
        c.due("start behind the end", x.start(), 1);
        x.stop();
        c.due("start behind stop", x.start(), 1);
    }

    private static void noOutputs(Check c) {
        c.says("There are no outputs any more");
        for (int count : new int[] {1, 23, 24, 25, 30}) {
            GateStack x = Check.linked("M{@a{!a;a=a-1;}}");
            x.set(0, count);
            x.start();
            Check.runToEnd(x);
            c.due("outputs", x.at(3), count);
            c.due("last kept", x.output(Math.min(count, 24) - 1), Math.max(1, count - 23));
            x.start();
            c.due("outputs after start", x.at(3), 0);
            for (int i = 0; i < 24; i++) {
                c.due("output " + i, x.output(i), GateStack.NONE);
            }
        }
    }

    private static void nothingToDo(Check c) {
        c.says("if there is nothing to do it has ended at once");
        GateStack x = Check.linked("A{!1;}", "M{}");
        for (int i = 0; i < 3; i++) {
            c.due("start", x.start(), 0);
            c.dueLinkAndRun("start", x, 1, false);
            c.due("run", x.run(4), GateStack.REFUSED);
            c.due("stop", x.stop(), GateStack.REFUSED);
        }
        c.says("a call, a test of a choice or a loop are to be done");
        c.due("call of an empty one", Check.linked("M{A;}A{}").start(), 1);
        c.due("choice", Check.linked("M{?0{}}").start(), 1);
        c.due("loop", Check.linked("M{@0{}}").start(), 1);
        c.says("There are no outputs any more, also if it has ended at once");
        GateStack y = Check.started("M{!1;}");
        y.run(1);
        y.clear(0);
        Check.put(y, 0, "M{}");
        y.compile(0);
        y.link();
        c.due("outputs before", y.at(3), 1);
        c.due("start", y.start(), 0);
        c.due("outputs", y.at(3), 0);
        c.due("output 0", y.output(0), GateStack.NONE);
    }

    private static void fromTheFirst(Check c) {
        c.says("a run is going on from the first statement of M");
        GateStack x = Check.linked("A{!1;!2;}", "Z{}M{A;?1{!3;}}");
        for (int steps = 0; steps < 6; steps++) {
            c.due("start", x.start(), 1);
            c.due("letter", x.at(0), 'M');
            c.due("statement", x.at(1), 1);
            c.due("begun", x.at(2), 1);
            for (int i = 0; i < steps; i++) {
                x.run(1);
            }
            c.due("stop", x.stop(), steps < 5 ? GateStack.DONE : GateStack.REFUSED);
        }
    }
}
