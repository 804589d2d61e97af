public final class Edge14OperateTest {
    private static final int LEAST = Integer.MIN_VALUE;
    private static final int GREATEST = Integer.MAX_VALUE;

    public static void main(String[] args) {
        Check c = new Check("promise 14");
        plus(c);
        minus(c);
        bits(c);
        less(c);
        others(c);
        anywhere(c);
        c.end();
    }

    private static void gives(Check c, int operation, int one, int other, long want) {
        String what = "operate " + operation + " " + one + " " + other;
        c.due(what, new GateStack().operate(operation, one, other), want);
    }

    private static void plus(Check c) {
        c.says("0 one + other (wraps)");
        gives(c, 0, GREATEST, 0, GREATEST);
        gives(c, 0, GREATEST, 1, LEAST);
        gives(c, 0, 1, GREATEST, LEAST);
        gives(c, 0, GREATEST - 1, 1, GREATEST);
        gives(c, 0, GREATEST, GREATEST, -2);
        gives(c, 0, LEAST, -1, GREATEST);
        gives(c, 0, LEAST + 1, -1, LEAST);
        gives(c, 0, LEAST, LEAST, 0);
        gives(c, 0, LEAST, GREATEST, -1);
    }

    private static void minus(Check c) {
        c.says("1 one - other (wraps)");
        gives(c, 1, LEAST, 0, LEAST);
        gives(c, 1, LEAST, 1, GREATEST);
        gives(c, 1, LEAST + 1, 1, LEAST);
        gives(c, 1, GREATEST, -1, LEAST);
        gives(c, 1, GREATEST - 1, -1, GREATEST);
        gives(c, 1, 0, LEAST, LEAST);
        gives(c, 1, -1, LEAST, GREATEST);
        gives(c, 1, LEAST, GREATEST, 1);
        gives(c, 1, GREATEST, LEAST, -1);
        gives(c, 1, 3, 5, -2);
    }

    private static void bits(Check c) {
        c.says("2 &, 3 |, 4 ^");
        gives(c, 2, LEAST, GREATEST, 0);
        gives(c, 2, -1, LEAST, LEAST);
        gives(c, 2, 12, 10, 8);
        gives(c, 3, LEAST, GREATEST, -1);
        gives(c, 3, 0, LEAST, LEAST);
        gives(c, 3, 12, 10, 14);
        gives(c, 4, LEAST, GREATEST, -1);
        gives(c, 4, LEAST, LEAST, 0);
        gives(c, 4, 12, 10, 6);
    }

    private static void less(Check c) {
        c.says("5: 1 if one is less than other, else 0");
        int[] rising = {LEAST, LEAST + 1, -1, 0, 1, GREATEST - 1, GREATEST};
        for (int i = 0; i < rising.length; i++) {
            for (int j = 0; j < rising.length; j++) {
                gives(c, 5, rising[i], rising[j], i < j ? 1 : 0);
            }
        }
    }

    private static void others(Check c) {
        c.says("Else NONE");
        for (int operation : new int[] {-1, 6, 7, -2, '+', '=', LEAST, GREATEST}) {
            gives(c, operation, 1, 1, GateStack.NONE);
            gives(c, operation, LEAST, GREATEST, GateStack.NONE);
        }
    }

    private static void anywhere(Check c) {
        c.says("Works out an operation, whatever the object is doing");
        for (Situation situation : Situation.all()) {
            GateStack x = situation.maker.get();
            c.due(situation.name, x.operate(0, 40, 2), 42);
            c.due(situation.name + ", 5", x.operate(5, 2, 40), 1);
            c.due(situation.name + ", 6", x.operate(6, 2, 2), GateStack.NONE);
        }
    }
}
