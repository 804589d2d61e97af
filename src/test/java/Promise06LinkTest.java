public final class Promise06LinkTest {
    public static void main(String[] args) {
        Check c = new Check("link");
        countsProcedures(c);
        refusesWhatIsNotCompiled(c);
        tellsDoubleMissingCircleInThisOrder(c);
        findsCircles(c);
        endsARun(c);
        forgetsTheLinkBefore(c);
        c.end();
    }

    private static void links(Check c, int want, String... texts) {
        GateStack x = Check.compiled(texts);
        String what = String.join(" ", texts);
        c.due(what, x.link(), want);
        c.due(what + " linked", x.state(1, 2), want >= 0 ? 1 : 0);
        c.due(what + " start", x.start() == GateStack.REFUSED ? 0 : 1, want >= 0 ? 1 : 0);
    }

    private static void countsProcedures(Check c) {
        links(c, 1, "M{}");
        links(c, 1, "", "", "M{}");
        links(c, 3, "A{}", "B{}", "M{A;B;}");
        links(c, 4, "M{A;}A{B;}", "B{C;}", "C{}");
        links(c, 26, "A{}B{}C{}D{}E{}F{}G{}H{}I{}J{}K{}L{}M{}N{}O{}P{}Q{}R{}S{}T{}",
            "U{}V{}W{}X{}Y{}Z{}");
        links(c, 2, "M{}A{}");
    }

    private static void refusesWhatIsNotCompiled(Check c) {
        for (int module = 0; module < 3; module++) {
            GateStack x = Check.linked("M{}", "A{}", "B{}");
            x.sign(module, 'Z');
            c.due("module " + module + " is not compiled", x.link(), GateStack.REFUSED);
            c.due("compile of it", x.compile(module), GateStack.BAD);
            c.due("still not", x.link(), GateStack.REFUSED);
            x.clear(module);
            c.due("cleared", x.link(), module == 0 ? GateStack.MISSING : 2);
        }
        links(c, GateStack.REFUSED, "M{}M{}");
    }

    private static void tellsDoubleMissingCircleInThisOrder(Check c) {
        links(c, GateStack.DOUBLE, "M{}", "M{}");
        links(c, GateStack.DOUBLE, "M{}", "", "M{}");
        links(c, GateStack.DOUBLE, "", "A{}", "A{}");
        links(c, GateStack.DOUBLE, "A{X;}", "A{A;}");
        links(c, GateStack.DOUBLE, "M{M;}", "A{}", "A{}");
        links(c, GateStack.MISSING, "");
        links(c, GateStack.MISSING, "A{}", "B{}", "C{}");
        links(c, GateStack.MISSING, "M{A;}");
        links(c, GateStack.MISSING, "M{}", "A{B;}");
        links(c, GateStack.MISSING, "M{}", "", "A{?0{@0{!1;Z;}}}");
        links(c, GateStack.MISSING, "M{?1{}:{Z;}}");
        links(c, GateStack.MISSING, "A{A;}");
        links(c, GateStack.MISSING, "M{M;A;}");
        links(c, GateStack.MISSING, "M{Z;A;}A{}");
        links(c, GateStack.CIRCLE, "M{M;A;}A{}");
    }

    private static void findsCircles(Check c) {
        links(c, GateStack.CIRCLE, "M{M;}");
        links(c, GateStack.CIRCLE, "M{A;}A{M;}");
        links(c, GateStack.CIRCLE, "M{A;B;}A{}B{M;}");
        links(c, GateStack.CIRCLE, "M{B;A;}A{M;}B{}");
        links(c, GateStack.CIRCLE, "M{}", "A{A;}");
        links(c, GateStack.CIRCLE, "M{?0{@0{M;}}}");
        links(c, GateStack.CIRCLE, "M{?1{}:{M;}}");
        links(c, GateStack.CIRCLE, "M{A;}", "Z{C;}C{B;}", "B{Z;}A{}");
        links(c, GateStack.CIRCLE, "M{D;}D{C;}C{B;}B{A;}A{D;}");
        links(c, GateStack.CIRCLE, "M{A;}A{B;}B{C;}C{D;}D{A;}");
        links(c, 4, "M{A;B;C;}A{B;C;}B{C;}C{}");
        links(c, 4, "M{A;B;}", "A{C;}B{C;}", "C{}");
        links(c, 26, "A{B;}B{C;}C{D;}D{E;}E{F;}F{G;}G{H;}H{I;}I{J;}J{K;}K{}",
            "M{N;}N{O;}O{P;}P{Q;}Q{R;}R{S;}S{T;}T{U;}U{V;}V{W;}W{X;}X{Y;}", "Y{Z;}Z{A;}L{}");
        links(c, GateStack.CIRCLE, "A{B;}B{C;}C{D;}D{E;}E{F;}F{G;}G{H;}H{I;}I{J;}J{K;}K{M;}",
            "M{N;}N{O;}O{P;}P{Q;}Q{R;}R{S;}S{T;}T{U;}U{V;}V{W;}W{X;}X{Y;}", "Y{Z;}Z{A;}L{}");
    }

    private static void endsARun(Check c) {
        GateStack x = Check.started("M{!1;!2;}");
        x.run(1);
        c.due("link in a run", x.link(), 1);
        c.dueLinkAndRun("link in a run", x, 1, false);
        c.due("outputs stay", x.output(0), 1);
        c.due("start again", x.start(), 1);
        c.due("from the first statement", x.at(1), 1);
    }

    private static void forgetsTheLinkBefore(Check c) {
        GateStack x = Check.linked("M{A;}", "A{}");
        x.clear(1);
        c.due("A is gone", x.link(), GateStack.MISSING);
        c.due("not linked", x.state(0, 2), 0);
        Check.put(x, 2, "A{M;}");
        x.compile(2);
        c.due("A calls M now", x.link(), GateStack.CIRCLE);
        x.clear(2);
        Check.put(x, 2, "A{!5;}");
        x.compile(2);
        c.due("A is another one", x.link(), 2);
        x.start();
        Check.runToEnd(x);
        c.due("output of the new A", x.output(0), 5);
        x.clear(0);
        Check.put(x, 0, "M{}");
        x.compile(0);
        c.due("A is not called any more", x.link(), 2);
        Check.put(x, 1, "B{B;}");
        x.compile(1);
        c.due("B calls itself", x.link(), GateStack.CIRCLE);
        x.clear(1);
        c.due("B is gone", x.link(), 2);
    }
}
