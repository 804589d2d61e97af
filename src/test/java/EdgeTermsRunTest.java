/** Terms: what a run does, a step at a time. */
public final class EdgeTermsRunTest {
    public static void main(String[] args) {
        Check c = new Check("Terms, run");
        beginsWithM(c);
        oneStepEach(c);
        callsGoOnBehind(c);
        choices(c);
        loops(c);
        endsWithNothingLeft(c);
        numbered(c);
        variablesKeep(c);
        c.end();
    }

    /**
     * Does one step after the other, and writes down where each one is: the letter, the number of
     * the statement and how many procedures are begun.
     */
    private static void goes(Check c, String places, String... texts) {
        GateStack x = Check.linked(texts);
        String what = String.join(" ", texts);
        StringBuilder seen = new StringBuilder();
        int going = x.start();
        for (int i = 0; i < 60 && going == 1; i++) {
            seen.append(seen.length() == 0 ? "" : " ");
            seen.append((char) x.at(0)).append(x.at(1)).append('/').append(x.at(2));
            going = x.run(1);
        }
        boolean same = seen.toString().equals(places);
        c.due(what + " went " + seen + ", due is " + places + ", so this", same ? 1 : 0, 1);
        c.due(what + " is at the end", going, 0);
        for (int i = 0; i < 3; i++) {
            c.due(what + " at " + i, x.at(i), 0);
        }
    }

    private static void beginsWithM(Check c) {
        c.says("It is going on or not (at first not)");
        GateStack x = Check.linked("M{!1;}");
        c.due("stop", x.stop(), GateStack.REFUSED);
        c.due("begun", x.at(2), 0);
        c.says("It begins with procedure M");
        goes(c, "M1/1", "M{!1;}");
        goes(c, "M1/1", "A{!1;!2;}M{!1;}Z{!3;}");
        goes(c, "M1/1", "A{!1;!2;}", "Z{!3;}", "N{}L{}M{!1;}");
        goes(c, "", "A{!1;}", "M{}");
    }

    private static void oneStepEach(Check c) {
        c.says("an assignment, an output, a call, a test of a choice or a loop are one step each");
        goes(c, "M1/1", "M{a=((1+2)-(3+4))&5;}");
        goes(c, "M1/1", "M{!~~~~~1;}");
        goes(c, "M1/1", "M{A;}A{}");
        goes(c, "M1/1", "M{?1{}:{}}");
        goes(c, "M1/1", "M{?0{}:{}}");
        goes(c, "M1/1", "M{@0{}}");
        goes(c, "M1/1 M2/1 M3/1 M4/1 M5/1", "M{a=0;!a;A;?a{}@a{}}", "A{}");
    }

    private static void callsGoOnBehind(Check c) {
        c.says("A call goes on with the called procedure's statements, and behind the call");
        goes(c, "M1/1 A1/2 M2/1", "M{A;!1;}A{!2;}");
        goes(c, "M1/1 A1/2", "M{A;}A{!2;}");
        goes(c, "M1/1 M2/1 A1/2 M3/1", "M{E;A;E;}A{!2;}E{}");
        goes(c, "M1/1 A1/2 A2/2 M2/1", "M{A;!1;}", "A{E;E;}", "E{}");
        goes(c, "M1/1 A1/2 B1/3 Z1/4 M2/1", "M{A;!9;}Z{!1;}", "A{B;}", "B{Z;}");
        goes(c, "M1/1 A1/2 M2/1 A1/2 M3/1", "M{A;A;!1;}", "", "A{!2;}");
        goes(c, "M1/1 M2/1 A1/2 A2/2 B1/3 A3/2 M3/1", "M{?1{A;}!1;}", "A{?1{B;}!3;}", "B{!2;}");
        goes(c, "M1/1 M3/1 A1/2 M4/1", "M{?0{!1;}:{A;}!4;}", "A{@0{}}");
    }

    private static void choices(Check c) {
        c.says("A choice goes on with its first block if the value is not 0");
        for (String value : new String[] {"1", "-1", "256", "~0", "a", "b", "0=0"}) {
            chooses(c, value, 1);
        }
        c.says("else with its second one if it has one");
        for (String value : new String[] {"0", "0000", "-0", "1-1", "a-a", "a+a", "1<0"}) {
            chooses(c, value, 2);
        }
        goes(c, "M1/1 M3/1", "M{?0{!1;}!3;}");
        goes(c, "M1/1", "M{?0{!1;}}");
        goes(c, "M1/1 M2/1", "M{?1{!1;}}");
        goes(c, "M1/1 M3/1", "M{?1{}:{!2;}!3;}");
        goes(c, "M1/1 M3/1", "M{?0{!2;}:{}!3;}");
        goes(c, "M1/1 M2/1 M3/1 M6/1", "M{?1{?1{!3;}:{!4;}}:{!5;}!6;}");
        goes(c, "M1/1 M2/1 M4/1 M6/1", "M{?1{?0{!3;}:{!4;}}:{!5;}!6;}");
        goes(c, "M1/1 M5/1 M6/1", "M{?0{?1{!3;}:{!4;}}:{!5;}!6;}");
        goes(c, "M1/1 M3/1 M4/1 M6/1", "M{?0{!2;}:{?1{!4;}:{!5;}}!6;}");
    }

    private static void chooses(Check c, String value, int output) {
        GateStack x = Check.linked("M{?" + value + "{!1;}:{!2;}}");
        x.set(0, Integer.MIN_VALUE);
        x.set(1, Integer.MAX_VALUE);
        x.start();
        c.due("test of " + value, x.run(1), 1);
        c.due("one output behind " + value, x.run(4), 0);
        c.due("outputs behind " + value, x.at(3), 1);
        c.due("output behind " + value, x.output(0), output);
    }

    private static void loops(Check c) {
        c.says("a loop with its block and then the test again if the value is not 0");
        goes(c, "M1/1 M3/1", "M{@0{!2;}!3;}");
        goes(c, "M1/1 M2/1 M3/1 M2/1 M4/1", "M{a=1;@a{a=0;}!3;}");
        goes(c, "M1/1 M2/1 M3/1 M2/1 M3/1 M2/1", "M{a=0-2;@a{a=a+1;}}");
        goes(c, "M1/1 M2/1 M3/1 M4/1 M2/1", "M{a=1;@a{?a{a=0;}}}");
        goes(c, "M1/1 M2/1 M3/1 M5/1 M2/1", "M{a=1;@a{?0{!4;}:{a=0;}}}");
        goes(c, "M1/1 M2/1 M3/1 M4/1 M3/1 M2/1", "M{a=1;@a{@a{a=0;}}}");
        goes(c, "M1/1 M2/1 M3/1 A1/2 M2/1", "M{a=1;@a{A;}}", "A{a=0;}");
        goes(c, "M1/1 M2/1 M3/1 M4/1 M2/1", "M{a=1;@a{a=0;E;}}", "E{}");
        GateStack x = Check.started("M{@a-1{}}");
        for (int i = 0; i < 200; i++) {
            c.due("an empty block, for ever", x.run(4), 1);
        }
        c.due("its place", x.at(1), 1);
        x.set(0, 1);
        c.due("its end", x.run(4), 0);
    }

    private static void endsWithNothingLeft(Check c) {
        c.says("The run ends in the step after which nothing is left to be done");
        goes(c, "M1/1 M2/1 M3/1 M4/1 M5/1", "M{?1{?1{?1{?1{?1{}}}}}}");
        goes(c, "M1/1 M2/1 M3/1 M4/1 M5/1 M6/1", "M{?1{?1{?1{?1{?1{!1;}}}}}}");
        goes(c, "M1/1 M2/1 M3/1 M4/1 M5/1 A1/2", "M{?1{?1{?1{?1{A;}}}}}", "A{?1{}:{}}");
        goes(c, "M1/1 A1/2 B1/3 C1/4", "M{A;}", "A{B;}B{C;}", "C{E;}E{}");
        goes(c, "M1/1 A1/2 A2/2 B1/3 B2/3", "M{A;}", "A{?1{B;}}", "B{?1{@0{}}}");
        StringBuilder chain = new StringBuilder("M1/1");
        for (int depth = 2; depth <= 26; depth++) {
            chain.append(' ').append((char) ('A' + (12 + depth - 1) % 26)).append("1/").append(depth);
        }
        goes(c, chain.toString(), "M{N;}N{O;}O{P;}P{Q;}Q{R;}R{S;}S{T;}T{U;}U{V;}V{W;}W{X;}X{Y;}",
            "Y{Z;}Z{A;}A{B;}B{C;}C{D;}D{E;}E{F;}F{G;}G{H;}H{I;}I{J;}J{K;}", "K{L;}L{!1;}");
    }

    private static void numbered(Check c) {
        c.says("Statements of a procedure are numbered 1, 2, .. by their first signs");
        StringBuilder places = new StringBuilder("M1/1");
        for (int number = 2; number <= 28; number++) {
            places.append(" M").append(number).append("/1");
        }
        goes(c, places.toString(), "M{" + "E;".repeat(28) + "}", "E{}");
        goes(c, "M1/1 M2/1 A1/2 A2/2 A4/2 M3/1 M5/1", "E{!1;!2;}M{?1{A;}?0{!4;}!5;}", "A{?1{?0{!3;}}!4;}");
        goes(c, "M1/1 M4/1 A1/2 M5/1 M6/1", "A{!1;}M{?0{!2;!3;}:{A;}@0{}!6;}");
    }

    private static void variablesKeep(Check c) {
        c.says("Variables are 0 at first and keep their values over runs");
        GateStack x = Check.started("M{!a;a=a+1;!h;h=h-1;}");
        for (int round = 0; round < 5; round++) {
            c.due("a in round " + round, x.get(0), round);
            c.due("end of round " + round, x.run(4), 0);
            c.due("first output of round " + round, x.output(0), round);
            c.due("second output of round " + round, x.output(1), -round);
            x.start();
        }
        x.run(2);
        x.stop();
        c.due("a after stop", x.get(0), 6);
        c.due("h after stop", x.get(7), -5);
        x.clear(0);
        Check.put(x, 0, "M{}");
        x.compile(0);
        x.link();
        x.start();
        c.due("a with another text", x.get(0), 6);
        c.due("h with another text", x.get(7), -5);
    }
}
