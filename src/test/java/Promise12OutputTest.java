public final class Promise12OutputTest {
    public static void main(String[] args) {
        Check c = new Check("output");
        GateStack x = Check.started("M{@1{!a;a=a-1;}}");
        int[] wrong = {-1, 24, Integer.MIN_VALUE, Integer.MAX_VALUE};
        for (int outputs = 0; outputs < 30; outputs++) {
            c.due("count", x.at(3), outputs);
            for (int i : new int[] {0, 1, outputs - 1, outputs, 22, 23}) {
                boolean there = i >= 0 && i < outputs && i < 24;
                c.due("output " + i, x.output(i), there ? -i : GateStack.NONE);
            }
            for (int i : wrong) {
                c.due("output " + i, x.output(i), GateStack.NONE);
            }
            x.run(3);
        }
        x.stop();
        c.due("after stop", x.output(23), -23);
        x.start();
        c.due("after start", x.output(0), GateStack.NONE);
        x.run(2);
        c.due("first of the new run", x.output(0), -30);
        c.due("second of the new run", x.output(1), GateStack.NONE);
        GateStack y = Check.started("M{!a;!b;}");
        y.set(0, Integer.MIN_VALUE);
        y.set(1, Integer.MAX_VALUE);
        y.run(2);
        c.due("least value", y.output(0), Integer.MIN_VALUE);
        c.due("greatest value", y.output(1), Integer.MAX_VALUE);
        c.end();
    }
}
