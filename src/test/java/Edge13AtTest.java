public final class Edge13AtTest {
    public static void main(String[] args) {
        Check c = new Check("promise 13");
        whats(c);
        letters(c);
        statements(c);
        begun(c);
        noRun(c);
        outputs(c);
        c.end();
    }

    private static void whats(Check c) {
        c.says("0, 1, 2, 3. Else REFUSED");
        GateStack x = Check.started("M{A;}", "A{!8;!9;}");
        x.run(2);
        int[] want = {'A', 2, 2, 1};
        for (int what = -3; what <= 6; what++) {
            boolean allowed = what >= 0 && what <= 3;
            c.due("at " + what, x.at(what), allowed ? want[what] : GateStack.REFUSED);
        }
        c.due("at least", x.at(Integer.MIN_VALUE), GateStack.REFUSED);
        c.due("at greatest", x.at(Integer.MAX_VALUE), GateStack.REFUSED);
    }

    private static void letters(Check c) {
        c.says("0: the code of the letter of the procedure whose step is next");
        for (char letter = 'A'; letter <= 'Z'; letter++) {
            if (letter != 'M') {
                GateStack x = Check.started("M{" + letter + ";!1;}", letter + "{!2;}");
                c.due("before the call", x.at(0), 77);
                x.run(1);
                c.due("in " + letter, x.at(0), 65 + letter - 'A');
                x.run(1);
                c.due("behind the call", x.at(0), 77);
            }
        }
        c.says("whose step is next, not who called last");
        GateStack x = Check.started("M{E;A;}", "A{E;!1;}", "E{}");
        int[] next = {'M', 'M', 'A', 'A', 0};
        for (int letter : next) {
            c.due("letter", x.at(0), letter);
            x.run(1);
        }
    }

    private static void statements(Check c) {
        c.says("1: the number of the statement in it");
        GateStack x = Check.started("A{!1;!2;!3;}M{" + "E;".repeat(22) + "}", "E{}");
        for (int number = 1; number <= 22; number++) {
            c.due("statement", x.at(1), number);
            x.run(1);
        }
        c.due("behind the last", x.at(1), 0);
        GateStack y = Check.started("M{?1{!2;@0{!4;}}:{!5;}!6;}");
        for (int number : new int[] {1, 2, 3, 6, 0}) {
            c.due("nested", y.at(1), number);
            y.run(1);
        }
    }

    private static void begun(Check c) {
        c.says("2: how many procedures are begun and not done, M counted");
        GateStack x = Check.started("M{A;E;B;}E{}", "A{B;!1;}", "B{C;}C{!2;}");
        for (int count : new int[] {1, 2, 3, 4, 2, 1, 1, 2, 3, 0}) {
            c.due("begun", x.at(2), count);
            x.run(1);
        }
        GateStack y = Check.started("M{N;}N{O;}O{P;}P{Q;}Q{R;}R{S;}S{T;}T{U;}U{V;}V{W;}W{X;}X{Y;}",
            "Y{Z;}Z{A;}A{B;}B{C;}C{D;}D{E;}E{F;}F{G;}G{H;}H{I;}I{J;}J{K;}", "K{L;}L{!1;!2;}");
        for (int count = 1; count <= 26; count++) {
            c.due("in a chain of all letters", y.at(2), count);
            y.run(1);
        }
        c.due("at its end", y.at(2), 26);
        c.due("the last step", y.run(1), 0);
        c.due("behind its end", y.at(2), 0);
    }

    private static void noRun(Check c) {
        c.says("0 for all of these if no run is going on");
        for (Situation situation : Situation.all()) {
            GateStack x = situation.maker.get();
            for (int what = 0; what < 3; what++) {
                c.due(situation.name + ", at " + what, x.at(what) > 0 ? 1 : 0, situation.going ? 1 : 0);
            }
        }
    }

    private static void outputs(Check c) {
        c.says("3: how many outputs there were since the last start (those after the 24th counted too)");
        GateStack x = Check.started("M{@1{!a;}}");
        for (int count = 0; count <= 100; count++) {
            c.due("outputs", x.at(3), count);
            x.run(2);
        }
        c.due("in a run", x.at(3), 101);
        x.stop();
        c.due("stopped", x.at(3), 101);
        x.sign(1, 'A');
        c.due("written on", x.at(3), 101);
        x.clear(1);
        c.due("cleared", x.at(3), 101);
        x.link();
        c.due("linked", x.at(3), 101);
        x.start();
        c.due("started", x.at(3), 0);
    }
}
