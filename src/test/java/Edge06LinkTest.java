public final class Edge06LinkTest {
    private static final String A_TO_L = "A{B;}B{C;}C{D;}D{E;}E{F;}F{G;}G{H;}H{I;}I{J;}J{K;}K{L;}";
    private static final String M_TO_X = "M{N;}N{O;}O{P;}P{Q;}Q{R;}R{S;}S{T;}T{U;}U{V;}V{W;}W{X;}X{Y;}";

    public static void main(String[] args) {
        Check c = new Check("promise 6");
        notCompiled(c);
        doubles(c);
        missing(c);
        circles(c);
        inThisOrder(c);
        counts(c);
        runsEnd(c);
        afterwards(c);
        asTheTextsAreNow(c);
        c.end();
    }

    private static void links(Check c, int want, String... texts) {
        GateStack x = Check.compiled(texts);
        String what = String.join(" ", texts);
        c.due(what, x.link(), want);
        c.dueLinkAndRun(what, x, want >= 0 ? 1 : 0, false);
        c.due(what + " once more", x.link(), want);
        c.due(what + " can start", x.start() == GateStack.REFUSED ? 0 : 1, want >= 0 ? 1 : 0);
    }

    private static void notCompiled(Check c) {
        c.says("A module is not COMPILED: REFUSED");
        String[] spoilers = {"Z", "Z{}", "M{}", "Z{Y;}", "Z{Z;}"};
        for (int module = 0; module < 3; module++) {
            for (String spoiler : spoilers) {
                GateStack x = Check.linked("M{}", "A{}", "B{}");
                Check.put(x, module, spoiler);
                c.due(spoiler + " in " + module, x.link(), GateStack.REFUSED);
                c.due("again", x.link(), GateStack.REFUSED);
                c.due("not linked", x.state(0, 2), 0);
            }
        }
        GateStack x = Check.with("M{}", "A{}", "B{}");
        for (int module = 2; module >= 0; module--) {
            c.due("before compile of " + module, x.link(), GateStack.REFUSED);
            x.compile(module);
        }
        c.due("all compiled", x.link(), 3);
    }

    private static void doubles(Check c) {
        c.says("Two procedures of different modules have the same letter: DOUBLE");
        for (char letter : "AMZ".toCharArray()) {
            String text = letter + "{}";
            links(c, GateStack.DOUBLE, text, text, "");
            links(c, GateStack.DOUBLE, text, "", text);
            links(c, GateStack.DOUBLE, "", text, text);
            links(c, GateStack.DOUBLE, text, text, text);
        }
        links(c, GateStack.DOUBLE, "M{}A{}B{}", "C{}D{}", "E{}F{}B{}");
        links(c, 6, "M{}A{}B{}", "C{}D{}", "E{}");
    }

    private static void missing(Check c) {
        c.says("There is no procedure M, or a call of a procedure that there is not: MISSING");
        links(c, GateStack.MISSING, "", "", "");
        links(c, GateStack.MISSING, "L{}N{}", "", "");
        links(c, GateStack.MISSING, "A{}", "B{}", "Z{}");
        for (int module = 0; module < 3; module++) {
            for (char letter : "AZ".toCharArray()) {
                String[] texts = {"", "", ""};
                texts[module] = "C{" + letter + ";}";
                texts[(module + 1) % 3] = "M{}";
                links(c, GateStack.MISSING, texts);
                texts[(module + 2) % 3] = letter + "{}";
                links(c, 3, texts);
            }
        }
        links(c, 1, "", "M{}", "");
        for (char letter = 'A'; letter <= 'Z'; letter++) {
            String other = letter == 'M' ? "" : "M{}";
            String missing = letter == 'Y' ? "X" : "Y";
            links(c, GateStack.MISSING, other, letter + "{" + missing + ";}");
        }
    }

    private static void circles(Check c) {
        c.says("A procedure CALLS itself, directly or along a chain: CIRCLE");
        for (char letter : "AZ".toCharArray()) {
            links(c, GateStack.CIRCLE, "M{}", letter + "{" + letter + ";}");
            links(c, GateStack.CIRCLE, "M{}", "", "C{" + letter + ";}" + letter + "{C;}");
        }
        links(c, GateStack.CIRCLE, "M{M;}");
        links(c, GateStack.CIRCLE, "M{A;}A{A;}");
        links(c, GateStack.CIRCLE, "M{A;}", "A{B;}", "B{M;}");
        links(c, GateStack.CIRCLE, "M{}", "C{A;}", "A{B;}B{C;}");
        links(c, GateStack.CIRCLE, "M{}", "A{C;}", "C{B;}B{A;}");
        links(c, GateStack.CIRCLE, A_TO_L, M_TO_X, "Y{Z;}Z{A;}L{M;}");
        links(c, GateStack.CIRCLE, A_TO_L, M_TO_X, "Y{Z;}Z{A;}L{L;}");
        links(c, GateStack.CIRCLE, A_TO_L, M_TO_X, "Y{Z;}Z{Y;}L{}");
        c.says("a procedure that is called twice, or along two chains, is no circle");
        links(c, 26, A_TO_L, M_TO_X, "Y{Z;}Z{A;}L{}");
        links(c, 4, "M{A;A;B;B;}", "A{C;}B{C;}", "C{}");
        links(c, 4, "M{A;B;C;}", "A{B;C;}", "B{C;C;}C{}");
    }

    private static void inThisOrder(Check c) {
        c.says("DOUBLE before MISSING before CIRCLE");
        links(c, GateStack.DOUBLE, "A{}", "A{}");
        links(c, GateStack.DOUBLE, "M{Z;}", "", "M{}");
        links(c, GateStack.DOUBLE, "M{M;}", "", "M{}");
        links(c, GateStack.DOUBLE, "A{B;}", "B{A;Z;}", "B{}");
        links(c, GateStack.MISSING, "A{A;}");
        links(c, GateStack.MISSING, "M{M;Z;}");
        links(c, GateStack.MISSING, "M{A;}", "A{M;}", "B{C;}");
        links(c, GateStack.CIRCLE, "M{A;}", "A{M;}", "B{}");
    }

    private static void counts(Check c) {
        c.says("Answers the number of all procedures");
        links(c, 1, "M{}");
        links(c, 2, "M{}A{}");
        links(c, 2, "A{}", "", "M{}");
        links(c, 25, "A{}B{}C{}D{}E{}F{}G{}H{}I{}", "J{}K{}L{}M{}N{}O{}P{}Q{}R{}", "S{}T{}U{}V{}W{}X{}Y{}");
        links(c, 26, "A{}B{}C{}D{}E{}F{}G{}H{}I{}", "J{}K{}L{}M{}N{}O{}P{}Q{}R{}", "S{}T{}U{}V{}W{}X{}Y{}Z{}");
    }

    private static void runsEnd(Check c) {
        c.says("Else they are LINKED; a run that is going on ends");
        GateStack x = Check.started("M{a=3;!4;A;}A{!5;}");
        for (int steps = 0; steps < 4; steps++) {
            c.due("link after " + steps + " steps", x.link(), 2);
            c.dueLinkAndRun("link", x, 1, false);
            c.due("run", x.run(1), GateStack.REFUSED);
            c.due("start", x.start(), 1);
            c.due("from the first statement", x.at(1), 1);
            c.due("of M", x.at(0), 'M');
            for (int i = 0; i < steps; i++) {
                x.run(1);
            }
        }
    }

    private static void afterwards(Check c) {
        c.says("After DOUBLE, MISSING and CIRCLE they are not LINKED");
        String[] spoilers = {"M{}", "B{Z;}", "B{B;}"};
        int[] answers = {GateStack.DOUBLE, GateStack.MISSING, GateStack.CIRCLE};
        GateStack x = Check.linked("M{!6;A;}", "A{!7;}");
        for (int i = 0; i < spoilers.length; i++) {
            x.start();
            x.run(1);
            Check.put(x, 2, spoilers[i]);
            x.compile(2);
            c.due(spoilers[i], x.link(), answers[i]);
            c.dueLinkAndRun(spoilers[i], x, 0, false);
            c.due("start", x.start(), GateStack.REFUSED);
            c.due("the outputs are as they were", x.output(0), 6);
            c.due("all are still compiled", x.state(0, 1) + x.state(1, 1) + x.state(2, 1), 3);
            x.clear(2);
            c.due("link without it", x.link(), 2);
        }
        x.start();
        c.due("run of what is linked now", x.run(4), 0);
        c.due("its output", x.output(1), 7);
    }

    private static void asTheTextsAreNow(Check c) {
        c.says("the procedures and calls of the texts that are there now, not of those before");
        for (char letter = 'A'; letter <= 'Z'; letter++) {
            if (letter == 'M' || letter == 'E') {
                continue;
            }
            GateStack x = Check.linked("M{" + letter + ";}", letter + "{E;}", "E{}");
            c.due(letter + " calls E", x.state(0, 2), 1);
            x.clear(2);
            c.due("without E", x.link(), GateStack.MISSING);
            x.clear(1);
            c.due("without " + letter, x.link(), GateStack.MISSING);
            x.clear(0);
            Check.put(x, 0, "M{}");
            x.compile(0);
            c.due("M alone", x.link(), 1);
            Check.put(x, 2, letter + "{" + letter + ";}");
            x.compile(2);
            c.due(letter + " calls itself", x.link(), GateStack.CIRCLE);
            x.clear(2);
            c.due("M alone again", x.link(), 1);
        }
    }
}
