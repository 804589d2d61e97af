/** What fault and compile are due to say of one text, in each module. */
final class Reading {
    static void whole(Check c, String text, int procedures) {
        read(c, text, -2, procedures);
    }

    static void twins(Check c, String text) {
        read(c, text, -2, GateStack.DOUBLE);
    }

    static void unfinished(Check c, String text) {
        read(c, text, text.length(), GateStack.BAD);
    }

    static void stopsAt(Check c, int place, String text) {
        read(c, text, place, GateStack.BAD);
        // Nothing behind the first sign that can't stand, nor its lack, may matter.
        read(c, text.substring(0, place + 1), place, GateStack.BAD);
    }

    private static void read(Check c, String text, int fault, int answer) {
        c.due("length of " + text, text.length() <= 60 ? 1 : 0, 1);
        for (int module = 0; module < 3; module++) {
            GateStack x = new GateStack();
            Check.put(x, module, text);
            c.due("fault of " + text, x.fault(module), fault);
            c.due("compile of " + text, x.compile(module), answer);
            c.due("compiled, " + text, x.state(module, 1), answer >= 0 ? 1 : 0);
            c.due("length left, " + text, x.state(module, 0), text.length());
        }
    }
}
