/** Terms: values at the ends of an int, in expressions; promise 14 has the same for operate. */
public final class EdgeTermsValuesTest {
    private static final int LEAST = Integer.MIN_VALUE;
    private static final int GREATEST = Integer.MAX_VALUE;

    public static void main(String[] args) {
        Check c = new Check("Terms, values");
        plusWraps(c);
        minusWraps(c);
        bits(c);
        compares(c);
        prefixes(c);
        fromTheLeft(c);
        numbers(c);
        everyUse(c);
        c.end();
    }

    /** Works out the expression with a and b given, as an assignment and as an output. */
    private static void gives(Check c, String expression, int a, int b, int want) {
        String what = expression + " with " + a + " and " + b;
        GateStack x = Check.linked("M{h=" + expression + ";!" + expression + ";}");
        x.set(0, a);
        x.set(1, b);
        x.start();
        c.due(what + " run", x.run(2), 0);
        c.due(what, x.get(7), want);
        c.due(what + " as output", x.output(0), want);
    }

    private static void plusWraps(Check c) {
        c.says("+ and - wrap");
        gives(c, "a+b", GREATEST, 0, GREATEST);
        gives(c, "a+b", GREATEST, 1, LEAST);
        gives(c, "a+b", 1, GREATEST, LEAST);
        gives(c, "a+b", GREATEST - 1, 1, GREATEST);
        gives(c, "a+b", GREATEST, GREATEST, -2);
        gives(c, "a+b", LEAST, 0, LEAST);
        gives(c, "a+b", LEAST, -1, GREATEST);
        gives(c, "a+b", LEAST + 1, -1, LEAST);
        gives(c, "a+b", LEAST, LEAST, 0);
        gives(c, "a+b", LEAST, GREATEST, -1);
        gives(c, "a+9999", GREATEST - 9999, 0, GREATEST);
        gives(c, "a+9999", GREATEST - 9998, 0, LEAST);
    }

    private static void minusWraps(Check c) {
        c.says("+ and - wrap");
        gives(c, "a-b", LEAST, 0, LEAST);
        gives(c, "a-b", LEAST, 1, GREATEST);
        gives(c, "a-b", LEAST + 1, 1, LEAST);
        gives(c, "a-b", GREATEST, -1, LEAST);
        gives(c, "a-b", GREATEST - 1, -1, GREATEST);
        gives(c, "a-b", 0, LEAST, LEAST);
        gives(c, "a-b", -1, LEAST, GREATEST);
        gives(c, "a-b", LEAST, GREATEST, 1);
        gives(c, "a-b", GREATEST, LEAST, -1);
        gives(c, "a-b", LEAST, LEAST, 0);
        gives(c, "a+1-1", GREATEST, 0, GREATEST);
    }

    private static void bits(Check c) {
        c.says("& | ^ work on the bits");
        gives(c, "a&b", LEAST, GREATEST, 0);
        gives(c, "a&b", LEAST, -1, LEAST);
        gives(c, "a&b", -1, GREATEST, GREATEST);
        gives(c, "a&b", 12, 10, 8);
        gives(c, "a|b", LEAST, GREATEST, -1);
        gives(c, "a|b", LEAST, 1, LEAST + 1);
        gives(c, "a|b", 12, 10, 14);
        gives(c, "a|b", 0, 0, 0);
        gives(c, "a^b", LEAST, GREATEST, -1);
        gives(c, "a^b", LEAST, LEAST, 0);
        gives(c, "a^b", -1, GREATEST, LEAST);
        gives(c, "a^b", 12, 10, 6);
    }

    private static void compares(Check c) {
        c.says("'<' gives 1 if the left value is less, '=' if they are equal, else 0");
        int[] rising = {LEAST, LEAST + 1, -9999, -1, 0, 1, 9999, GREATEST - 1, GREATEST};
        for (int i = 0; i < rising.length; i++) {
            for (int j = 0; j < rising.length; j++) {
                gives(c, "a<b", rising[i], rising[j], i < j ? 1 : 0);
                gives(c, "a=b", rising[i], rising[j], i == j ? 1 : 0);
            }
        }
    }

    private static void prefixes(Check c) {
        c.says("'~' inverts the bits");
        gives(c, "~a", 0, 0, -1);
        gives(c, "~a", -1, 0, 0);
        gives(c, "~a", LEAST, 0, GREATEST);
        gives(c, "~a", GREATEST, 0, LEAST);
        c.says("'-' changes the sign (wraps)");
        gives(c, "-a", 0, 0, 0);
        gives(c, "-a", 1, 0, -1);
        gives(c, "-a", -1, 0, 1);
        gives(c, "-a", GREATEST, 0, LEAST + 1);
        gives(c, "-a", LEAST + 1, 0, GREATEST);
        gives(c, "-a", LEAST, 0, LEAST);
        gives(c, "--a", LEAST, 0, LEAST);
        gives(c, "-~a", GREATEST, 0, LEAST);
        gives(c, "~-a", LEAST, 0, GREATEST);
        gives(c, "-(a+b)", LEAST, 1, GREATEST);
        c.says("'~' or '-' and an operand: no more than the operand");
        gives(c, "-a+b", 1, 5, 4);
        gives(c, "~a+b", 1, 5, 3);
        gives(c, "-a-b", 1, 5, -6);
        gives(c, "~-~-~1+b", 1, 5, 1);
    }

    private static void fromTheLeft(Check c) {
        c.says("all bind alike, from the left");
        String signs = "+-&|^<=";
        int[] with12And5Then3 = {
            20, 14, 1, 19, 18, 0, 0,
            10, 4, 3, 7, 4, 0, 0,
            7, 1, 0, 7, 7, 0, 0,
            16, 10, 1, 15, 14, 0, 0,
            12, 6, 1, 11, 10, 0, 0,
            3, -3, 0, 3, 3, 1, 0,
            3, -3, 0, 3, 3, 1, 0,
        };
        for (int first = 0; first < 7; first++) {
            for (int second = 0; second < 7; second++) {
                String expression = "a" + signs.charAt(first) + "b" + signs.charAt(second) + "3";
                gives(c, expression, 12, 5, with12And5Then3[first * 7 + second]);
            }
        }
        gives(c, "a-(b-3)", 12, 5, 10);
        gives(c, "a-(b-(3-2))", 12, 5, 8);
        gives(c, "1-1" + "-1".repeat(8), 0, 0, -8);
    }

    private static void numbers(Check c) {
        c.says("a number of 1 to 4 digits");
        gives(c, "0", 7, 7, 0);
        gives(c, "9", 7, 7, 9);
        gives(c, "10", 7, 7, 10);
        gives(c, "0010", 7, 7, 10);
        gives(c, "9999", 7, 7, 9999);
        gives(c, "-9999", 7, 7, -9999);
        gives(c, "1234+5678", 7, 7, 6912);
    }

    private static void everyUse(Check c) {
        c.says("a variable (a letter a .. h)");
        for (int variable = 0; variable < 8; variable++) {
            char letter = (char) ('a' + variable);
            GateStack x = Check.linked("M{!" + letter + ";" + letter + "=" + letter + "+1;}");
            for (int other = 0; other < 8; other++) {
                x.set(other, 100 + other);
            }
            x.start();
            x.run(2);
            c.due("output of " + letter, x.output(0), 100 + variable);
            for (int other = 0; other < 8; other++) {
                c.due("variable " + other, x.get(other), 100 + other + (other == variable ? 1 : 0));
            }
        }
    }
}
