public final class Promise11GetTest {
    public static void main(String[] args) {
        Check c = new Check("get");
        GateStack x = Check.linked("M{a=1;b=2;c=3;d=4;e=5;f=6;g=7;h=8;}");
        int[] wrong = {-1, 8, Integer.MIN_VALUE, Integer.MAX_VALUE};
        for (int variable : wrong) {
            c.due("get " + variable, x.get(variable), GateStack.NONE);
        }
        x.start();
        for (int done = 1; done <= 8; done++) {
            x.run(1);
            for (int variable = 0; variable < 8; variable++) {
                c.due("get " + variable, x.get(variable), variable < done ? variable + 1 : 0);
            }
        }
        keepsOverRuns(c);
        c.end();
    }

    private static void keepsOverRuns(Check c) {
        GateStack x = Check.started("M{a=a+1;b=b-1;}");
        Check.runToEnd(x);
        x.start();
        Check.runToEnd(x);
        c.due("a", x.get(0), 2);
        c.due("b", x.get(1), -2);
        x.clear(0);
        c.due("a without a text", x.get(0), 2);
    }
}
