/** Terms: the texts and the rules that they are written by. */
public final class EdgeTermsTextTest {
    private static final String TWENTY = "A{}B{}C{}D{}E{}F{}G{}H{}I{}J{}K{}L{}M{}N{}O{}P{}Q{}R{}S{}T{}";

    public static void main(String[] args) {
        Check c = new Check("Terms, texts");
        sixtySigns(c);
        codes(c);
        procedures(c);
        variables(c);
        calls(c);
        blocks(c);
        expressions(c);
        numbers(c);
        operands(c);
        c.end();
    }

    private static void sixtySigns(Check c) {
        c.says("MODULES 0 .. 2 have a text of at most 60 signs each (empty at first)");
        GateStack x = new GateStack();
        for (int module = 0; module < 3; module++) {
            c.due("empty " + module, x.state(module, 0), 0);
            for (int length = 1; length <= 60; length++) {
                c.due("sign " + module, x.sign(module, 'A' + module), length);
            }
            c.due("the 61st " + module, x.sign(module, 'A'), GateStack.REFUSED);
            c.due("length " + module, x.state(module, 0), 60);
        }
        x.clear(1);
        c.due("first again", x.sign(1, 'A'), 1);
        c.due("the others are full", x.state(0, 0) + x.state(2, 0), 120);
    }

    private static void codes(Check c) {
        c.says("codes 33 .. 126");
        for (int code = -300; code <= 600; code++) {
            boolean allowed = code >= 33 && code <= 126;
            GateStack x = new GateStack();
            c.due("code " + code, x.sign(0, code), allowed ? 1 : GateStack.REFUSED);
            c.due("length after " + code, x.state(0, 0), allowed ? 1 : 0);
            c.due("compiled after " + code, x.state(0, 1), allowed ? 0 : 1);
        }
    }

    private static void procedures(Check c) {
        c.says("module: procedures, maybe none");
        Reading.whole(c, "", 0);
        Reading.whole(c, "A{}", 1);
        Reading.whole(c, TWENTY, 20);
        Reading.unfinished(c, TWENTY.substring(0, 59));
        c.says("procedure: a letter A .. Z, '{', statements, maybe none, '}'");
        Reading.whole(c, "Z{}", 1);
        Reading.stopsAt(c, 0, "@{}");
        Reading.stopsAt(c, 0, "[{}");
        Reading.stopsAt(c, 0, "a{}");
        Reading.stopsAt(c, 3, "A{}@{}");
        Reading.stopsAt(c, 3, "A{}[{}");
        Reading.stopsAt(c, 3, "A{}}");
        Reading.stopsAt(c, 3, "A{}:{}");
        Reading.stopsAt(c, 1, "A}");
        Reading.stopsAt(c, 1, "A;");
        Reading.stopsAt(c, 1, "AB{}");
        Reading.stopsAt(c, 0, "{}");
        Reading.unfinished(c, "Z");
        Reading.unfinished(c, "Z{");
    }

    private static void variables(Check c) {
        c.says("a variable (a letter a .. h)");
        Reading.whole(c, "M{a=a;h=h;}", 1);
        for (char sign : "`iAH".toCharArray()) {
            Reading.stopsAt(c, sign >= 'A' && sign <= 'Z' ? 3 : 2, "M{" + sign + "=1;}");
            Reading.stopsAt(c, 4, "M{a=" + sign + ";}");
            Reading.stopsAt(c, 4, "M{!~" + sign + ";}");
            Reading.stopsAt(c, 5, "M{!1+" + sign + ";}");
        }
        Reading.stopsAt(c, 3, "M{a;}");
        Reading.stopsAt(c, 3, "M{ab=1;}");
        Reading.stopsAt(c, 4, "M{a==1;}");
        Reading.stopsAt(c, 4, "M{!ab;}");
    }

    private static void calls(Check c) {
        c.says("a letter A .. Z, ';' (call of that procedure)");
        Reading.whole(c, "M{A;Z;}", 1);
        Reading.stopsAt(c, 2, "M{[;}");
        Reading.stopsAt(c, 3, "M{@;}");
        Reading.stopsAt(c, 3, "M{A}");
        Reading.stopsAt(c, 3, "M{AB;}");
        Reading.stopsAt(c, 3, "M{A{}}");
        Reading.stopsAt(c, 2, "M{;}");
        Reading.stopsAt(c, 4, "M{A;;}");
    }

    private static void blocks(Check c) {
        c.says("'?', an expression, '{', statements, '}', and maybe ':', '{', statements, '}'");
        Reading.whole(c, "M{?1{}}", 1);
        Reading.whole(c, "M{?1{}:{}}", 1);
        Reading.whole(c, "M{?1{!1;!2;}:{!3;!4;}}", 1);
        Reading.whole(c, "M{?1{}?1{}:{}?1{}}", 1);
        Reading.whole(c, "M{?1{?1{}:{}}:{?1{}:{}}}", 1);
        Reading.stopsAt(c, 9, "M{?1{}:{}:{}}");
        Reading.stopsAt(c, 2, "M{:{}}");
        Reading.stopsAt(c, 5, "M{?1{:{}}}");
        Reading.stopsAt(c, 8, "M{?1{}A;:{}}");
        Reading.stopsAt(c, 7, "M{?1{}}:{}");
        Reading.stopsAt(c, 7, "M{?1{}:}");
        Reading.stopsAt(c, 7, "M{?1{}:?1{}}");
        Reading.stopsAt(c, 3, "M{?{}}");
        Reading.stopsAt(c, 4, "M{?1;}");
        Reading.stopsAt(c, 4, "M{?1}");
        Reading.unfinished(c, "M{?1{}");
        Reading.unfinished(c, "M{?1{}:");
        Reading.unfinished(c, "M{?1{}:{}");
        c.says("'@', an expression, '{', statements, '}' (loop)");
        Reading.whole(c, "M{@1{}}", 1);
        Reading.whole(c, "M{@1{!1;!2;}@1{}}", 1);
        Reading.stopsAt(c, 6, "M{@1{}:{}}");
        Reading.stopsAt(c, 9, "M{?1{@1{}:{}}}");
        Reading.stopsAt(c, 3, "M{@{}}");
        Reading.stopsAt(c, 4, "M{@1;}");
    }

    private static void expressions(Check c) {
        c.says("an operand, then any number of operators with an operand behind each");
        Reading.whole(c, "M{!a;}", 1);
        Reading.whole(c, "M{!" + "a+".repeat(27) + "a;}", 1);
        Reading.whole(c, "M{!a+a-a&a|a^a<a=a;}", 1);
        for (char sign : "+-&|^<=".toCharArray()) {
            Reading.stopsAt(c, 5, "M{!a" + sign + ";}");
            Reading.stopsAt(c, 5, "M{!a" + sign + "&a;}");
            Reading.unfinished(c, "M{!a" + sign);
        }
        for (char sign : "!\"#$%'(*,./>?@[\\]_`~}){:".toCharArray()) {
            Reading.stopsAt(c, 4, "M{!a" + sign + "a;}");
        }
        Reading.stopsAt(c, 3, "M{!;}");
        Reading.stopsAt(c, 4, "M{a=;}");
    }

    private static void numbers(Check c) {
        c.says("a number of 1 to 4 digits");
        String[] whole = {"0", "9", "10", "99", "100", "999", "1000", "9999", "0000"};
        for (String number : whole) {
            Reading.whole(c, "M{!" + number + ";}", 1);
            Reading.whole(c, "M{!(" + number + ")+~" + number + "-" + number + ";}", 1);
            Reading.unfinished(c, "M{!" + number);
        }
        Reading.stopsAt(c, 7, "M{!12345;}");
        Reading.stopsAt(c, 7, "M{!00000;}");
        Reading.stopsAt(c, 8, "M{!~10000;}");
        Reading.stopsAt(c, 9, "M{!~(99999);}");
        Reading.stopsAt(c, 12, "M{!1234+56789;}");
        Reading.stopsAt(c, 9, "M{?1+12345{}}");
        Reading.stopsAt(c, 5, "M{!12a;}");
        Reading.stopsAt(c, 4, "M{!a1;}");
        Reading.stopsAt(c, 6, "M{!(1)2;}");
        for (char sign : "/:".toCharArray()) {
            Reading.stopsAt(c, 3, "M{!" + sign + ";}");
            Reading.stopsAt(c, 4, "M{!1" + sign + ";}");
        }
    }

    private static void operands(Check c) {
        c.says("'(' expression ')', or '~' or '-' and an operand");
        Reading.whole(c, "M{!(a);}", 1);
        Reading.whole(c, "M{!(a+1)-(2);}", 1);
        Reading.whole(c, "M{!~-~-a--~(-1);}", 1);
        Reading.stopsAt(c, 4, "M{!();}");
        Reading.stopsAt(c, 5, "M{!(a;}");
        Reading.stopsAt(c, 4, "M{!a);}");
        Reading.stopsAt(c, 6, "M{!(a));}");
        Reading.stopsAt(c, 5, "M{?(a{}}");
        Reading.stopsAt(c, 4, "M{!~;}");
        Reading.stopsAt(c, 4, "M{!-;}");
        Reading.stopsAt(c, 4, "M{!~+1;}");
        Reading.stopsAt(c, 4, "M{!a~1;}");
        Reading.stopsAt(c, 4, "M{!a(1);}");
        Reading.stopsAt(c, 6, "M{!(a)(b);}");
    }
}
