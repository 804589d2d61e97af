import java.util.ArrayList;
import java.util.List;

public final class Edge03ClearTest {
    public static void main(String[] args) {
        Check c = new Check("promise 3");
        modules(c);
        texts(c);
        repeated(c);
        nothingIsLeft(c);
        c.end();
    }

    private static void modules(Check c) {
        c.says("The text of module 0 .. 2 is empty");
        for (int module = -2; module <= 4; module++) {
            boolean isModule = module >= 0 && module <= 2;
            GateStack x = Check.with("M{", "A{}", "B{}Z");
            c.due("clear " + module, x.clear(module), isModule ? GateStack.DONE : GateStack.REFUSED);
            for (int other = 0; other < 3; other++) {
                int length = other == module ? 0 : other + 2;
                c.due("length " + other, x.state(other, 0), other == 2 && module != 2 ? 4 : length);
                c.due("compiled " + other, x.state(other, 1), other == module ? 1 : 0);
            }
        }
    }

    private static void texts(Check c) {
        c.says("is empty, and it is COMPILED. DONE");
        String[] texts = {"", "A", "A{}", "A{}A{}", "x", Situation.FULL, "M{!((((((1"};
        for (String text : texts) {
            for (int compiles = 0; compiles < 2; compiles++) {
                GateStack x = Check.with("", text);
                if (compiles == 1) {
                    x.compile(1);
                }
                c.due("clear of " + text, x.clear(1), GateStack.DONE);
                c.due("length", x.state(1, 0), 0);
                c.due("compiled", x.state(1, 1), 1);
                c.due("fault", x.fault(1), -2);
                c.due("no procedures", x.link(), GateStack.MISSING);
                c.due("first sign of a new text", x.sign(1, 'M'), 1);
                Check.put(x, 1, "{}");
                c.due("the new text alone counts", x.compile(1), 1);
                c.due("it alone is linked", x.link(), 1);
            }
        }
    }

    private static void repeated(Check c) {
        c.says("The text is empty, also if it was before. DONE");
        GateStack x = new GateStack();
        for (int i = 0; i < 3; i++) {
            for (int module = 0; module < 3; module++) {
                c.due("clear " + module, x.clear(module), GateStack.DONE);
                c.due("length " + module, x.state(module, 0), 0);
                c.due("compiled " + module, x.state(module, 1), 1);
            }
        }
    }

    private static void nothingIsLeft(Check c) {
        c.says("The text is empty: a new one is as on a new object");
        String[] texts = {"M{!7;}", "M{@0{}}", "M{?1{}}", "M{?0{!1;}:{!2;}}", "A{}M{A;!3;}", "M{A;!4;}A{!5;}",
            "M{a=1;@a{a=0;?b{!1;}:{!2;}}!3;}", "M{?1{?1{?1{?1{?1{!1;}}}}}}", "A{!1;}B{!2;}M{B;A;}", "M{}A{A;}"};
        for (String before : texts) {
            for (String text : texts) {
                GateStack x = Check.compiled(before);
                x.clear(0);
                String what = text + " behind " + before;
                c.due(what, goes(x, text).equals(goes(new GateStack(), text)) ? 1 : 0, 1);
            }
        }
    }

    /** All answers from the writing of the text to the end of its run. */
    private static List<Long> goes(GateStack x, String text) {
        List<Long> answers = new ArrayList<>();
        Check.put(x, 0, text);
        answers.add((long) x.compile(0));
        answers.add((long) x.link());
        answers.add((long) x.start());
        for (int i = 0; i < 20 && x.at(2) > 0; i++) {
            answers.add((long) x.at(0));
            answers.add((long) x.at(1));
            answers.add((long) x.at(2));
            answers.add((long) x.run(1));
        }
        answers.addAll(Trace.seen(x));
        return answers;
    }
}
