public final class Promise08RunTest {
    public static void main(String[] args) {
        Check c = new Check("run");
        refuses(c);
        countsSteps(c);
        choosesAndLoops(c);
        callsAndComesBack(c);
        worksOutExpressions(c);
        c.end();
    }

    private static void refuses(Check c) {
        GateStack x = Check.started("M{!1;!2;}");
        int[] numbers = {0, 5, -1, Integer.MIN_VALUE, Integer.MAX_VALUE};
        for (int n : numbers) {
            c.due("run " + n, x.run(n), GateStack.REFUSED);
        }
        c.due("nothing was done", x.at(1), 1);
        c.due("no output", x.at(3), 0);
        Check.runToEnd(x);
        c.due("no run", x.run(1), GateStack.REFUSED);
        c.due("not started", Check.linked("M{!1;}").run(1), GateStack.REFUSED);
    }

    private static void countsSteps(Check c) {
        for (int n = 1; n <= 4; n++) {
            GateStack x = Check.started("M{!1;!2;!3;!4;!5;}");
            c.due("run " + n, x.run(n), 1);
            c.due("outputs", x.at(3), n);
        }
        GateStack y = Check.started("M{!1;!2;!3;!4;}");
        c.due("exactly to the end", y.run(4), 0);
        GateStack z = Check.started("M{!1;!2;}");
        c.due("beyond the end", z.run(4), 0);
        c.due("outputs", z.at(3), 2);
    }

    /** The steps until the end, and the outputs as digits. */
    private static void does(Check c, String text, int steps, String outputs) {
        GateStack x = Check.started(text);
        int done = 1;
        for (; done < 100 && x.run(1) == 1; done++) {
            continue;
        }
        c.due(text + " steps", done, steps);
        c.due(text + " outputs", x.at(3), outputs.length());
        for (int i = 0; i < outputs.length(); i++) {
            c.due(text + " output " + i, x.output(i), outputs.charAt(i) - '0');
        }
    }

    private static void choosesAndLoops(Check c) {
        does(c, "M{?1{!1;}!3;}", 3, "13");
        does(c, "M{?0{!1;}!3;}", 2, "3");
        does(c, "M{?1{!1;}:{!2;}!3;}", 3, "13");
        does(c, "M{?0{!1;}:{!2;}!3;}", 3, "23");
        does(c, "M{?-1{!1;}:{!2;}}", 2, "1");
        does(c, "M{?0{!1;}:{!2;}}", 2, "2");
        does(c, "M{?1{}:{!2;}}", 1, "");
        does(c, "M{?0{!1;}:{}}", 1, "");
        does(c, "M{?1{}!1;}", 2, "1");
        does(c, "M{?1{?0{!1;}:{!2;}}:{!3;}!4;}", 4, "24");
        does(c, "M{?0{!1;}:{?1{!2;}}?1{!3;}}", 5, "23");
        does(c, "M{@0{!1;}}", 1, "");
        does(c, "M{a=3;@a{!a;a=a-1;}!9;}", 12, "3219");
        does(c, "M{a=2;@a{a=a-1;b=2;@b{!b;b=b-1;}}}", 22, "2121");
        does(c, "M{a=3;@a{a=a-1;?a<2{!a;}}}", 13, "10");
        does(c, "M{a=2;@a{a=a-1;?a{!1;}:{!0;}}!5;}", 11, "105");
        does(c, "M{a=1;@a{?a{a=0;}}}", 5, "");
        GateStack x = Check.started("M{@1{}}");
        for (int i = 0; i < 100; i++) {
            c.due("a loop without an end", x.run(4), 1);
        }
        c.due("its statement", x.at(1), 1);
    }

    private static void callsAndComesBack(Check c) {
        does(c, "M{A;!1;A;}A{!2;}", 5, "212");
        does(c, "M{A;}A{}", 1, "");
        does(c, "M{A;A;}A{}", 2, "");
        does(c, "M{A;!3;}A{B;}B{C;}C{!1;}", 5, "13");
        does(c, "M{a=2;@a{A;}!7;}A{a=a-1;!a;}", 11, "107");
        does(c, "M{?1{A;}:{!5;}!6;}A{?1{!1;}}", 5, "16");
        GateStack x = Check.started("A{!1;B;!2;}", "B{!3;}", "M{A;!4;}");
        Check.runToEnd(x);
        int[] want = {1, 3, 2, 4};
        for (int i = 0; i < want.length; i++) {
            c.due("over modules, output " + i, x.output(i), want[i]);
        }
        deepestChain(c);
        newTextOverOld(c);
    }

    private static void newTextOverOld(Check c) {
        GateStack x = Check.started("M{@0{}}");
        c.due("old text", x.run(1), 0);
        x.clear(0);
        Check.put(x, 0, "M{!7;}");
        x.compile(0);
        x.link();
        c.due("start of the new text", x.start(), 1);
        c.due("new text", x.run(1), 0);
        c.due("output of the new text", x.output(0), 7);
    }

    private static void deepestChain(Check c) {
        GateStack x = Check.started("A{B;}B{C;}C{D;}D{E;}E{F;}F{G;}G{H;}H{I;}I{J;}J{K;}K{L;}",
            "M{N;}N{O;}O{P;}P{Q;}Q{R;}R{S;}S{T;}T{U;}U{V;}V{W;}W{X;}X{Y;}",
            "Y{?1{?1{?1{?1{?1{Z;}}}}}}Z{A;!1;}L{!2;}");
        int deepest = 0;
        int steps = 1;
        for (; steps < 100 && x.run(1) == 1; steps++) {
            deepest = Math.max(deepest, x.at(2));
        }
        c.due("deepest", deepest, 26);
        c.due("steps", steps, 25 + 5 + 2);
        c.due("first output", x.output(0), 2);
        c.due("second output", x.output(1), 1);
    }

    private static void gives(Check c, String expression, int want) {
        GateStack x = Check.linked("M{h=" + expression + ";}");
        x.set(0, Integer.MIN_VALUE);
        x.set(1, Integer.MAX_VALUE);
        x.set(2, -6);
        x.set(3, 13);
        x.start();
        c.due(expression + " run", x.run(1), 0);
        c.due(expression, x.get(7), want);
    }

    private static void worksOutExpressions(Check c) {
        gives(c, "0", 0);
        gives(c, "0007", 7);
        gives(c, "9999", 9999);
        gives(c, "c+d", 7);
        gives(c, "c-d", -19);
        gives(c, "c&d", 8);
        gives(c, "c|d", -1);
        gives(c, "c^d", -9);
        gives(c, "c<d", 1);
        gives(c, "d<c", 0);
        gives(c, "d<d", 0);
        gives(c, "a<b", 1);
        gives(c, "b<a", 0);
        gives(c, "c=d", 0);
        gives(c, "d=13", 1);
        gives(c, "b+1=a", 1);
        gives(c, "a-1", Integer.MAX_VALUE);
        gives(c, "-a", Integer.MIN_VALUE);
        gives(c, "-b", -Integer.MAX_VALUE);
        gives(c, "~a", Integer.MAX_VALUE);
        gives(c, "~0", -1);
        gives(c, "--5", 5);
        gives(c, "-~5", 6);
        gives(c, "~-5", 4);
        gives(c, "1-2-3", -4);
        gives(c, "1-(2-3)", 2);
        gives(c, "1+2&2", 2);
        gives(c, "1|2&4", 0);
        gives(c, "5<3+1", 1);
        gives(c, "3=3=1", 1);
        gives(c, "-1+3", 2);
        gives(c, "~1+3", 1);
        gives(c, "-(1+3)", -4);
        gives(c, "4--3", 7);
        gives(c, "4-~3", 8);
        gives(c, "(((((d)))))", 13);
        gives(c, "~~~~~d", -14);
        gives(c, "-----d", -13);
        gives(c, "-(-(-d))", -13);
        gives(c, "-(~(1+(2)))-1", 3);
        gives(c, "h", 0);
        gives(c, "a+b+c+d+e+f+g", 6);
    }
}
