public final class Promise04CompileTest {
    public static void main(String[] args) {
        Check c = new Check("compile");
        countsProcedures(c);
        tellsBadBeforeDouble(c);
        refusesNumbersOutOfRange(c);
        loosens(c);
        c.end();
    }

    private static void compiles(Check c, String text, int want) {
        GateStack x = Check.with("", "", text);
        c.due(text, x.compile(2), want);
        c.due(text + " compiled", x.state(2, 1), want >= 0 ? 1 : 0);
        c.due(text + " length", x.state(2, 0), text.length());
    }

    private static void countsProcedures(Check c) {
        compiles(c, "", 0);
        compiles(c, "A{}", 1);
        compiles(c, "A{}Z{}", 2);
        compiles(c, "A{B;}", 1);
        compiles(c, "A{A;}", 1);
        compiles(c, "A{}B{}C{}D{}E{}F{}G{}H{}I{}J{}K{}L{}M{}N{}O{}P{}Q{}R{}S{}T{}", 20);
        compiles(c, "M{a=1;!a;F;?a{b=2;}?a{}:{}@a{a=0;}}F{}", 2);
        compiles(c, "M{!~-(a+1)-9999&b|c^d<e=f;}", 1);
    }

    private static void tellsBadBeforeDouble(Check c) {
        compiles(c, "A{}A{}", GateStack.DOUBLE);
        compiles(c, "A{}B{}C{}A{!1;}", GateStack.DOUBLE);
        compiles(c, "A{}A{", GateStack.BAD);
        compiles(c, "A{}A{}a", GateStack.BAD);
        compiles(c, "A", GateStack.BAD);
        compiles(c, "A{", GateStack.BAD);
        compiles(c, "a", GateStack.BAD);
        compiles(c, "A{!((((((1))))));}", GateStack.BAD);
        compiles(c, "A{B{}}", GateStack.BAD);
        compiles(c, "A{}}", GateStack.BAD);
        GateStack x = Check.with("A{}A{}");
        x.compile(0);
        x.clear(0);
        c.due("after DOUBLE and clear", x.compile(0), 0);
        Check.put(x, 0, "A{}");
        c.due("once again A", x.compile(0), 1);
    }

    private static void refusesNumbersOutOfRange(Check c) {
        GateStack x = Check.started("M{!1;}");
        int[] modules = {-1, 3, Integer.MIN_VALUE, Integer.MAX_VALUE};
        for (int module : modules) {
            c.due("module " + module, x.compile(module), GateStack.REFUSED);
        }
        c.dueLinkAndRun("refused compile", x, 1, true);
    }

    private static void loosens(Check c) {
        GateStack x = Check.started("M{!1;}");
        c.due("compile again", x.compile(0), 1);
        c.dueLinkAndRun("compile again", x, 0, false);
        GateStack y = Check.started("M{!1;}");
        c.due("compile of an empty text", y.compile(2), 0);
        c.dueLinkAndRun("compile of an empty text", y, 0, false);
        c.due("link again", y.link(), 1);
    }
}
