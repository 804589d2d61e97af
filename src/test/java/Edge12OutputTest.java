public final class Edge12OutputTest {
    public static void main(String[] args) {
        Check c = new Check("promise 12");
        kept(c);
        values(c);
        sinceTheLastStart(c);
        c.end();
    }

    /** An object that has given so many outputs: 1001, 1002, .. */
    private static GateStack with(int outputs) {
        GateStack x = Check.linked("M{@b{a=a+1;!a;b=b-1;}}");
        x.set(0, 1000);
        x.set(1, outputs);
        x.start();
        Check.runToEnd(x);
        return x;
    }

    private static void kept(Check c) {
        c.says("Output i, from 0; NONE if there were not so many, or i is not 0 .. 23");
        for (int outputs : new int[] {0, 1, 2, 22, 23, 24, 25, 26, 48, 60}) {
            GateStack x = with(outputs);
            c.due("outputs", x.at(3), outputs);
            for (int i = -3; i < 63; i++) {
                boolean there = i >= 0 && i < outputs && i <= 23;
                c.due("output " + i + " of " + outputs, x.output(i), there ? 1001 + i : GateStack.NONE);
            }
            c.due("output least", x.output(Integer.MIN_VALUE), GateStack.NONE);
            c.due("output greatest", x.output(Integer.MAX_VALUE), GateStack.NONE);
        }
    }

    private static void values(Check c) {
        c.says("an output may be any int");
        GateStack x = Check.linked("M{!a;!b;!0;!-1;}");
        x.set(0, Integer.MIN_VALUE);
        x.set(1, Integer.MAX_VALUE);
        x.start();
        x.run(4);
        long[] want = {Integer.MIN_VALUE, Integer.MAX_VALUE, 0, -1};
        for (int i = 0; i < want.length; i++) {
            c.due("output " + i, x.output(i), want[i]);
        }
        c.says("an output stays as it was when its variable changes");
        x.set(0, 5);
        c.due("output 0", x.output(0), Integer.MIN_VALUE);
    }

    private static void sinceTheLastStart(Check c) {
        c.says("since the last start");
        GateStack x = Check.started("M{!1;!2;!3;}");
        x.run(3);
        c.due("ended", x.output(2), 3);
        x.start();
        c.due("started", x.output(0), GateStack.NONE);
        x.run(2);
        c.due("two outputs", x.output(1), 2);
        c.due("none is left of before", x.output(2), GateStack.NONE);
        c.due("start is refused", x.start(), GateStack.REFUSED);
        c.due("so they stay", x.output(1), 2);
        x.stop();
        c.due("stopped", x.output(1), 2);
        x.link();
        c.due("linked", x.output(1), 2);
        x.compile(0);
        c.due("compiled", x.output(1), 2);
        x.sign(0, 'A');
        c.due("written on", x.output(1), 2);
        x.clear(0);
        c.due("cleared", x.output(1), 2);
        c.due("start is refused without a link", x.start(), GateStack.REFUSED);
        c.due("so they stay again", x.output(1), 2);
    }
}
