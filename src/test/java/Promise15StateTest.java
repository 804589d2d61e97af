public final class Promise15StateTest {
    public static void main(String[] args) {
        Check c = new Check("state");
        GateStack x = Check.with("M{}", "A{", "B{}Z");
        for (int module = 0; module < 3; module++) {
            c.due("length " + module, x.state(module, 0), module == 0 ? 3 : module * 2);
            c.due("compiled " + module, x.state(module, 1), 0);
            c.due("linked " + module, x.state(module, 2), 0);
        }
        x.compile(0);
        x.compile(1);
        c.due("compiled", x.state(0, 1), 1);
        c.due("bad", x.state(1, 1), 0);
        c.due("not tried", x.state(2, 1), 0);
        x.clear(1);
        x.clear(2);
        c.due("not yet linked", x.state(0, 2), 0);
        x.link();
        for (int module = 0; module < 3; module++) {
            c.due("linked by " + module, x.state(module, 2), 1);
        }
        refuses(c, x);
        c.end();
    }

    private static void refuses(Check c, GateStack x) {
        int[] modules = {-1, 3, Integer.MIN_VALUE, Integer.MAX_VALUE};
        for (int module : modules) {
            for (int what = -1; what < 4; what++) {
                c.due("state " + module + " " + what, x.state(module, what), GateStack.REFUSED);
            }
        }
        int[] wrong = {-1, 3, Integer.MIN_VALUE, Integer.MAX_VALUE};
        for (int what : wrong) {
            c.due("state 0 " + what, x.state(0, what), GateStack.REFUSED);
        }
        c.due("linked after all", x.state(0, 2), 1);
    }
}
