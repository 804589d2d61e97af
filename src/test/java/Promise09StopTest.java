public final class Promise09StopTest {
    public static void main(String[] args) {
        Check c = new Check("stop");
        GateStack x = Check.linked("M{a=4;!5;A;}A{!6;!7;}");
        c.due("none is going on", x.stop(), GateStack.REFUSED);
        c.due("still linked", x.state(0, 2), 1);
        x.start();
        x.run(4);
        c.due("stop", x.stop(), GateStack.DONE);
        c.dueLinkAndRun("stop", x, 1, false);
        for (int what = 0; what < 3; what++) {
            c.due("at " + what, x.at(what), 0);
        }
        c.due("outputs stay", x.at(3), 2);
        c.due("output 1", x.output(1), 6);
        c.due("variables stay", x.get(0), 4);
        c.due("stop again", x.stop(), GateStack.REFUSED);
        c.due("run", x.run(1), GateStack.REFUSED);
        c.due("start", x.start(), 1);
        c.due("from the first statement", x.at(1), 1);
        Check.runToEnd(x);
        c.due("all outputs", x.at(3), 3);
        c.due("behind the end", x.stop(), GateStack.REFUSED);
        c.end();
    }
}
