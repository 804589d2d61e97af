/** What it is: the last call of an object that is promised anything. */
public final class EdgeTermsCallsTest {
    public static void main(String[] args) {
        Check c = new Check("What it is");
        c.says("An object is used for at most 512 calls after it has been made");
        longestRun(c);
        mostChanges(c);
        mostStarts(c);
        c.end();
    }

    private static void longestRun(Check c) {
        GateStack x = Check.started("M{@1{!a;!a;!a;!a;!a;!a;!a;a=a+1;}}");
        for (int call = 38; call < 509; call++) {
            c.due("call " + call, x.run(4), 1);
        }
        int steps = 4 * (509 - 38);
        int rounds = steps / 9;
        c.due("call 509: outputs", x.at(3), 7 * rounds + Math.max(0, steps % 9 - 1));
        c.due("call 510: the last output kept", x.output(23), 3);
        c.due("call 511: the rounds", x.get(0), rounds);
        c.due("call 512: the run goes on", x.run(1), 1);
    }

    private static void mostChanges(Check c) {
        GateStack x = new GateStack();
        for (int call = 1; call <= 510; call += 3) {
            int module = call / 3 % 3;
            c.due("call " + call, x.sign(module, 'M'), 1);
            c.due("call " + (call + 1), x.compile(module), GateStack.BAD);
            c.due("call " + (call + 2), x.clear(module), GateStack.DONE);
        }
        c.due("call 511", x.state(0, 0), 0);
        c.due("call 512", x.link(), GateStack.MISSING);
    }

    private static void mostStarts(Check c) {
        GateStack x = Check.linked("M{A;}", "A{a=a+1;}");
        for (int call = 18; call < 512; call += 2) {
            c.due("call " + call, x.start(), 1);
            c.due("call " + (call + 1), x.run(2), 0);
        }
        c.due("call 512", x.get(0), 247);
    }
}
