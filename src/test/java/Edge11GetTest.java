public final class Edge11GetTest {
    public static void main(String[] args) {
        Check c = new Check("promise 11");
        c.says("The value of variable 0 .. 7");
        GateStack x = new GateStack();
        for (int variable = 0; variable < 8; variable++) {
            x.set(variable, variable - 4);
        }
        for (int variable = -3; variable <= 10; variable++) {
            boolean allowed = variable >= 0 && variable <= 7;
            c.due("get " + variable, x.get(variable), allowed ? variable - 4 : GateStack.NONE);
        }
        c.says("NONE where the answer is a long");
        for (int variable : new int[] {Integer.MIN_VALUE, 'a', 'h', 256, Integer.MAX_VALUE}) {
            c.due("get " + variable, x.get(variable), GateStack.NONE);
        }
        c.due("NONE", GateStack.NONE, -1000000000000L);
        c.says("values at the ends of an int are values");
        x.set(0, Integer.MIN_VALUE);
        x.set(7, Integer.MAX_VALUE);
        c.due("least", x.get(0), -2147483648L);
        c.due("greatest", x.get(7), 2147483647L);
        byAssignment(c);
        c.end();
    }

    private static void byAssignment(Check c) {
        c.says("a variable keeps what the last assignment or set gave it");
        GateStack x = Check.linked("M{a=b+1;h=a+1;a=h-h;}");
        x.set(1, Integer.MAX_VALUE);
        x.start();
        x.run(1);
        c.due("a", x.get(0), Integer.MIN_VALUE);
        c.due("h", x.get(7), 0);
        x.run(1);
        c.due("h after its step", x.get(7), Integer.MIN_VALUE + 1);
        x.run(1);
        c.due("a after its last step", x.get(0), 0);
        c.due("b", x.get(1), Integer.MAX_VALUE);
    }
}
