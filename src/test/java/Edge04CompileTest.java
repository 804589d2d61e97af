public final class Edge04CompileTest {
    private static final String NINETEEN = "B{}C{}D{}E{}F{}G{}H{}I{}J{}K{}L{}M{}N{}O{}P{}Q{}R{}S{}T{}";

    public static void main(String[] args) {
        Check c = new Check("promise 4");
        modules(c);
        bad(c);
        twins(c);
        counts(c);
        afterwards(c);
        c.end();
    }

    private static void modules(Check c) {
        c.says("Module 0 .. 2");
        for (int module = -2; module <= 4; module++) {
            boolean isModule = module >= 0 && module <= 2;
            GateStack x = Check.with("A{}", "B{}", "C{}");
            c.due("compile " + module, x.compile(module), isModule ? 1 : GateStack.REFUSED);
            for (int other = 0; other < 3; other++) {
                c.due("compiled " + other, x.state(other, 1), other == module ? 1 : 0);
            }
        }
    }

    private static void bad(Check c) {
        c.says("a sign can't stand or the text is not a whole module: BAD");
        Reading.stopsAt(c, 0, "!");
        Reading.stopsAt(c, 59, NINETEEN + "A{$");
        Reading.stopsAt(c, 59, Situation.FULL.substring(0, 59) + "]");
        Reading.unfinished(c, "A");
        Reading.unfinished(c, Situation.FULL.substring(0, 59));
        Reading.unfinished(c, Situation.FULL.substring(0, 59) + "!");
        c.says("in this order: BAD before DOUBLE");
        Reading.unfinished(c, "A{}A");
        Reading.unfinished(c, "A{}A{");
        Reading.unfinished(c, "A{}A{}B");
        Reading.stopsAt(c, 6, "A{}A{}}");
        Reading.stopsAt(c, 5, "A{}A{)");
        Reading.stopsAt(c, 13, "A{}A{B;!~~~(((1)));}");
    }

    private static void twins(Check c) {
        c.says("Two procedures in it have the same letter: DOUBLE");
        Reading.twins(c, "A{}A{}");
        Reading.twins(c, "Z{}Z{}");
        Reading.twins(c, "A{}B{}A{}");
        Reading.twins(c, "A{}A{}A{}");
        Reading.twins(c, "A{}B{}B{}A{}");
        Reading.twins(c, "A{!1;}B{}A{!2;}");
        Reading.twins(c, "A{}" + NINETEEN.substring(0, 54) + "A{}");
        Reading.twins(c, NINETEEN + "T{}");
        Reading.twins(c, "B{}" + NINETEEN);
        c.says("calls are no procedures, and letters of other modules are not its own");
        Reading.whole(c, "A{A;A;B;B;}B{A;}", 2);
        GateStack x = Check.with("A{}", "A{}", "A{}");
        for (int module = 0; module < 3; module++) {
            c.due("A in " + module, x.compile(module), 1);
        }
    }

    private static void counts(Check c) {
        c.says("answers the number of its procedures");
        for (int count = 0; count <= 19; count++) {
            Reading.whole(c, NINETEEN.substring(0, 3 * count), count);
        }
        Reading.whole(c, "A{}" + NINETEEN, 20);
        Reading.whole(c, Situation.FULL, 1);
    }

    private static void afterwards(Check c) {
        c.says("After BAD and DOUBLE it is not COMPILED");
        for (String text : new String[] {"A{", "A{}a", "A{}A{}"}) {
            GateStack x = Check.with("M{}", text);
            x.compile(0);
            c.due(text, x.compile(1) < GateStack.REFUSED ? 1 : 0, 1);
            c.due(text + " compiled", x.state(1, 1), 0);
            c.due("the other is", x.state(0, 1), 1);
            c.due("link", x.link(), GateStack.REFUSED);
            x.clear(1);
            c.due("link without it", x.link(), 1);
        }
        c.says("Else it is COMPILED");
        GateStack x = Check.with("M{");
        c.due("not whole", x.compile(0), GateStack.BAD);
        x.sign(0, '}');
        c.due("still not compiled", x.state(0, 1), 0);
        c.due("whole", x.compile(0), 1);
        c.due("whole, again", x.compile(0), 1);
        c.due("compiled", x.state(0, 1), 1);
    }
}
