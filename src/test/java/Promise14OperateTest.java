public final class Promise14OperateTest {
    public static void main(String[] args) {
        Check c = new Check("operate");
        int[] values = {0, 1, -1, 13, -6, Integer.MIN_VALUE, Integer.MAX_VALUE, 0x55555555};
        for (int one : values) {
            GateStack x = new GateStack();
            for (int other : values) {
                String with = " of " + one + " and " + other;
                c.due("0" + with, x.operate(0, one, other), (int) ((long) one + other));
                c.due("1" + with, x.operate(1, one, other), (int) ((long) one - other));
                c.due("2" + with, x.operate(2, one, other), one & other);
                c.due("3" + with, x.operate(3, one, other), one | other);
                c.due("4" + with, x.operate(4, one, other), one ^ other);
                c.due("5" + with, x.operate(5, one, other), (long) one < (long) other ? 1 : 0);
                int[] wrong = {-1, 6, 7, Integer.MIN_VALUE, Integer.MAX_VALUE};
                for (int operation : wrong) {
                    c.due(operation + with, x.operate(operation, one, other), GateStack.NONE);
                }
            }
        }
        GateStack y = Check.started("M{!1;}");
        c.due("in a run", y.operate(0, 2, 3), 5);
        c.dueLinkAndRun("operate", y, 1, true);
        c.due("it is no output", y.at(3), 0);
        c.end();
    }
}
