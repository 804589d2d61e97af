public final class Promise05FaultTest {
    private static final String EVERY_SIGN_OF_A_STATEMENT = "ABCDEFGHIJKLMNOPQRSTUVWXYZabcdefgh!?@}";
    private static final String EVERY_SIGN_OF_AN_OPERAND = "0123456789abcdefgh(~-";
    private static final String OPERATORS = "+-&|^<=";

    public static void main(String[] args) {
        Check c = new Check("fault");
        wholeAndUnfinishedTexts(c);
        onlyTheseSignsCanStand(c);
        sixAreOpenAtMost(c);
        firstFaultCounts(c);
        refusesAndChangesNothing(c);
        readingsAreApart(c);
        c.end();
    }

    private static void fault(Check c, String text, int want) {
        c.due(text, Check.with("", text).fault(1), want);
    }

    private static void wholeAndUnfinishedTexts(Check c) {
        String text = "A{a=1+(b);!~2;B;?c{!1;}:{!-2;}@d{?1{}}}B{}";
        for (int length = 0; length <= text.length(); length++) {
            boolean whole = length == 0 || length == 39 || length == text.length();
            fault(c, text.substring(0, length), whole ? -2 : length);
        }
        fault(c, "A{}A{}", -2);
        fault(c, "A{B;}", -2);
        fault(c, "A{!0000;}", -2);
    }

    /** Every sign is tried behind the text: those of the list can stand there, no other. */
    private static void stand(Check c, String text, String list) {
        for (char sign = 33; sign <= 126; sign++) {
            String tried = text + sign;
            int got = Check.with("", tried).fault(1);
            boolean stands = got == -2 || got == tried.length();
            c.due(tried + " stands", stands ? 1 : 0, list.indexOf(sign) >= 0 ? 1 : 0);
            if (!stands) {
                c.due(tried, got, text.length());
            }
        }
    }

    private static void onlyTheseSignsCanStand(Check c) {
        String letters = "ABCDEFGHIJKLMNOPQRSTUVWXYZ";
        stand(c, "", letters);
        stand(c, "M", "{");
        stand(c, "M{", EVERY_SIGN_OF_A_STATEMENT);
        stand(c, "M{}", letters);
        stand(c, "M{a", "=");
        stand(c, "M{a=", EVERY_SIGN_OF_AN_OPERAND);
        stand(c, "M{a=b", OPERATORS + ";");
        stand(c, "M{a=1", OPERATORS + ";0123456789");
        stand(c, "M{a=123", OPERATORS + ";0123456789");
        stand(c, "M{a=1234", OPERATORS + ";");
        stand(c, "M{a=1234+567", OPERATORS + ";0123456789");
        stand(c, "M{a=b=", EVERY_SIGN_OF_AN_OPERAND);
        stand(c, "M{a=~", EVERY_SIGN_OF_AN_OPERAND);
        stand(c, "M{a=-", EVERY_SIGN_OF_AN_OPERAND);
        stand(c, "M{a=-b", OPERATORS + ";");
        stand(c, "M{a=(", EVERY_SIGN_OF_AN_OPERAND);
        stand(c, "M{a=(b", OPERATORS + ")");
        stand(c, "M{a=(~1", OPERATORS + ")0123456789");
        stand(c, "M{a=(b)", OPERATORS + ";");
        stand(c, "M{a=-(b)", OPERATORS + ";");
        stand(c, "M{a=((b)", OPERATORS + ")");
        stand(c, "M{a=b;", EVERY_SIGN_OF_A_STATEMENT);
        stand(c, "M{!", EVERY_SIGN_OF_AN_OPERAND);
        stand(c, "M{!b", OPERATORS + ";");
        stand(c, "M{F", ";");
        stand(c, "M{F;", EVERY_SIGN_OF_A_STATEMENT);
        stand(c, "M{?", EVERY_SIGN_OF_AN_OPERAND);
        stand(c, "M{?b", OPERATORS + "{");
        stand(c, "M{?(b", OPERATORS + ")");
        stand(c, "M{?b{", EVERY_SIGN_OF_A_STATEMENT);
        stand(c, "M{?b{}", EVERY_SIGN_OF_A_STATEMENT + ":");
        stand(c, "M{?b{!1;}", EVERY_SIGN_OF_A_STATEMENT + ":");
        stand(c, "M{?b{}:", "{");
        stand(c, "M{?b{}:{", EVERY_SIGN_OF_A_STATEMENT);
        stand(c, "M{?b{}:{}", EVERY_SIGN_OF_A_STATEMENT);
        stand(c, "M{?b{}!1;", EVERY_SIGN_OF_A_STATEMENT);
        stand(c, "M{@", EVERY_SIGN_OF_AN_OPERAND);
        stand(c, "M{@b", OPERATORS + "{");
        stand(c, "M{@b{}", EVERY_SIGN_OF_A_STATEMENT);
        stand(c, "M{?b{@c{}", EVERY_SIGN_OF_A_STATEMENT);
        stand(c, "M{@b{?c{}", EVERY_SIGN_OF_A_STATEMENT + ":");
    }

    private static void sixAreOpenAtMost(Check c) {
        fault(c, "M{!(((((1)))));}", -2);
        fault(c, "M{!((((((1))))));}", 8);
        fault(c, "M{!~~~~~1;}", -2);
        fault(c, "M{!~~~~~~1;}", 8);
        fault(c, "M{!~-~-~-1;}", 8);
        fault(c, "M{!~~~~~1-1;}", -2);
        fault(c, "M{!~~~~~1-~~~~~b-(((((2)))));}", -2);
        fault(c, "M{!(~(~(1)));}", -2);
        fault(c, "M{!(~(~((1))));}", 8);
        fault(c, "M{!(~(~(1+-2)));}", 10);
        fault(c, "M{!(~(~(1))+~-(2));}", -2);
        fault(c, "M{!(~(~(1))+~-(-2));}", -2);
        fault(c, "M{!(~(~(1))+~-(--2));}", 16);
        fault(c, "M{?1{?1{?1{?1{?1{}}}}}}", -2);
        fault(c, "M{?1{?1{?1{?1{?1{?1{", 19);
        fault(c, "M{?1{}:{@1{?1{}:{@1{?1{}:{", 26);
        fault(c, "M{?1{}:{@1{?1{}:{@1{?1{}:{@1{", 28);
        fault(c, "M{?~~~~~1{}}", -2);
        fault(c, "M{?1{?1{?1{?~~~b{}}}}}", 14);
        fault(c, "M{?1{?1{?1{?~~b{}}}}}", -2);
        fault(c, "M{?1{?1{?1{?1{?~1{}}}}}}", -2);
        fault(c, "M{?1{?1{?1{?1{?(1){}}}}}}", -2);
        fault(c, "M{?1{?1{?1{?1{?1{!-1;}}}}}}", 18);
        fault(c, "M{?1{?1{?1{?1{?1{!1-1;}}}}}}", -2);
        fault(c, "M{?1{?1{?1{?1{?1{}:{}}}}}}", -2);
        fault(c, "A{}B{}C{}D{}E{}F{}G{}H{!(((((1)))));}", -2);
    }

    private static void firstFaultCounts(Check c) {
        fault(c, "x", 0);
        fault(c, "xyz", 0);
        fault(c, "M{}}{", 3);
        fault(c, "M{!12345;!;", 7);
        fault(c, "M{!);?", 3);
        fault(c, "M{i=1;}", 2);
        fault(c, "M{!((((((", 8);
        String sixty = "M{!1111;!1111;!1111;!1111;!1111;!1111;!1111;!1111;!1111;!11;";
        c.due("sixty signs", sixty.length(), 60);
        fault(c, sixty, 60);
        fault(c, sixty.substring(0, 59) + "x", 59);
    }

    private static void readingsAreApart(Check c) {
        GateStack x = Check.with("M{?1{!((", "A{!~-(~-1);}", "B{!123456;}");
        for (int i = 0; i < 3; i++) {
            c.due("unfinished", x.fault(0), 8);
            c.due("whole", x.fault(1), -2);
            c.due("wrong", x.fault(2), 7);
            c.due("whole behind a wrong one", x.fault(1), -2);
        }
    }

    private static void refusesAndChangesNothing(Check c) {
        GateStack x = Check.started("M{!1;!2;}", "A{}");
        int[] modules = {-1, 3, Integer.MIN_VALUE, Integer.MAX_VALUE};
        for (int module : modules) {
            c.due("module " + module, x.fault(module), GateStack.REFUSED);
        }
        x.run(1);
        c.due("fault in a run", x.fault(0), -2);
        c.due("fault elsewhere", x.fault(1), -2);
        c.due("compiled", x.state(0, 1), 1);
        c.dueLinkAndRun("fault", x, 1, true);
        c.due("statement", x.at(1), 2);
        c.due("run", x.run(1), 0);
        c.due("output", x.output(1), 2);
        c.due("link", x.link(), 2);
        GateStack y = Check.with("M{}");
        c.due("fault of a whole text", y.fault(0), -2);
        c.due("it is not compiled by that", y.state(0, 1), 0);
        c.due("nor may it be linked", y.link(), GateStack.REFUSED);
    }
}
