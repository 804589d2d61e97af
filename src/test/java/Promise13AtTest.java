public final class Promise13AtTest {
    public static void main(String[] args) {
        Check c = new Check("at");
        numbersStatements(c);
        callsAreCounted(c);
        lastCallsAreCounted(c);
        refusesAndCounts(c);
        c.end();
    }

    private static void place(Check c, GateStack x, char letter, int number, int depth) {
        String what = letter + " " + number + " " + depth;
        c.due(what + " letter", x.at(0), letter);
        c.due(what + " number", x.at(1), number);
        c.due(what + " depth", x.at(2), depth);
        x.run(1);
    }

    private static void ended(Check c, GateStack x) {
        for (int what = 0; what < 3; what++) {
            c.due("at " + what + " at the end", x.at(what), 0);
        }
    }

    private static void numbersStatements(Check c) {
        GateStack x = Check.started("A{!1;!2;}M{a=1;?a{!1;?b{!2;}:{!3;}}:{!4;}@a{a=0;}!5;}");
        place(c, x, 'M', 1, 1);
        place(c, x, 'M', 2, 1);
        place(c, x, 'M', 3, 1);
        place(c, x, 'M', 4, 1);
        place(c, x, 'M', 6, 1);
        place(c, x, 'M', 8, 1);
        place(c, x, 'M', 9, 1);
        place(c, x, 'M', 8, 1);
        place(c, x, 'M', 10, 1);
        ended(c, x);
    }

    private static void callsAreCounted(Check c) {
        GateStack x = Check.started("M{A;!1;E;}E{}", "A{!2;B;?1{B;}}", "B{!3;}");
        place(c, x, 'M', 1, 1);
        place(c, x, 'A', 1, 2);
        place(c, x, 'A', 2, 2);
        place(c, x, 'B', 1, 3);
        place(c, x, 'A', 3, 2);
        place(c, x, 'A', 4, 2);
        place(c, x, 'B', 1, 3);
        place(c, x, 'M', 2, 1);
        place(c, x, 'M', 3, 1);
        ended(c, x);
    }

    private static void lastCallsAreCounted(Check c) {
        GateStack x = Check.started("M{A;}A{?1{B;}}B{@1{C;}}C{!1;!2;}");
        place(c, x, 'M', 1, 1);
        place(c, x, 'A', 1, 2);
        place(c, x, 'A', 2, 2);
        place(c, x, 'B', 1, 3);
        place(c, x, 'B', 2, 3);
        place(c, x, 'C', 1, 4);
        place(c, x, 'C', 2, 4);
        place(c, x, 'B', 1, 3);
    }

    private static void refusesAndCounts(Check c) {
        GateStack x = Check.started("M{!1;!2;}");
        int[] wrong = {-1, 4, Integer.MIN_VALUE, Integer.MAX_VALUE};
        for (int what : wrong) {
            c.due("at " + what, x.at(what), GateStack.REFUSED);
        }
        c.due("no outputs", x.at(3), 0);
        x.run(1);
        c.due("one output", x.at(3), 1);
        x.run(1);
        c.due("two outputs behind the end", x.at(3), 2);
        for (int what : wrong) {
            c.due("at " + what + " without a run", x.at(what), GateStack.REFUSED);
        }
        GateStack y = Check.started("M{@1{!7;}}");
        for (int i = 0; i < 100; i++) {
            y.run(4);
        }
        c.due("more than the kept ones", y.at(3), 200);
        y.sign(0, 'A');
        c.due("behind a change of the text", y.at(3), 200);
        y.compile(0);
        c.due("behind a start that is refused", y.start() + y.at(3), 199);
    }
}
