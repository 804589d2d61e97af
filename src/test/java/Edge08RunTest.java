public final class Edge08RunTest {
    public static void main(String[] args) {
        Check c = new Check("promise 8");
        numbers(c);
        noRun(c);
        steps(c);
        c.end();
    }

    private static void numbers(Check c) {
        c.says("n 1 .. 4");
        for (int n = -5; n <= 10; n++) {
            boolean allowed = n >= 1 && n <= 4;
            GateStack x = Check.started("M{!1;!2;!3;!4;!5;!6;}");
            c.due("run " + n, x.run(n), allowed ? 1 : GateStack.REFUSED);
            c.due("outputs after run " + n, x.at(3), allowed ? n : 0);
        }
    }

    private static void noRun(Check c) {
        c.says("No run is going on: REFUSED");
        for (Situation situation : Situation.all()) {
            for (int n = 1; n <= 4; n++) {
                int answer = situation.maker.get().run(n);
                c.due(situation.name, answer == GateStack.REFUSED ? 0 : 1, situation.going ? 1 : 0);
            }
        }
    }

    private static void steps(Check c) {
        c.says("So many steps are done, or as many as there are until the end");
        for (int left = 1; left <= 8; left++) {
            for (int n = 1; n <= 4; n++) {
                GateStack x = Check.started("M{" + "!7;".repeat(left) + "}");
                String what = "run " + n + " with " + left + " left";
                c.due(what, x.run(n), left > n ? 1 : 0);
                c.due(what + ", outputs", x.at(3), Math.min(n, left));
                c.due(what + ", place", x.at(1), left > n ? n + 1 : 0);
            }
        }
        c.says("Answers 1 if the run is still going on, else 0");
        GateStack x = Check.started("M{A;?a{!1;}:{B;}}", "A{a=0;}", "B{@a{}!2;}");
        int[] answers = {1, 1, 1, 1, 1, 0, GateStack.REFUSED};
        for (int i = 0; i < answers.length; i++) {
            c.due("step " + (i + 1), x.run(1), answers[i]);
        }
        GateStack y = Check.started("M{A;?a{!1;}:{B;}}", "A{a=0;}", "B{@a{}!2;}");
        c.due("four steps", y.run(4), 1);
        c.due("the fifth is in B", y.at(0), 'B');
        c.due("the last two", y.run(4), 0);
        c.due("output", y.output(0), 2);
        c.due("no step is left", y.run(4), GateStack.REFUSED);
    }
}
