public final class Edge15StateTest {
    public static void main(String[] args) {
        Check c = new Check("promise 15");
        numbers(c);
        lengths(c);
        compiled(c);
        linked(c);
        c.end();
    }

    private static void numbers(Check c) {
        c.says("What of module 0 .. 2: 0, 1, 2. Else REFUSED");
        GateStack x = Check.linked("M{}", "AB{}", "C{D;}");
        int[][] want = {{3, 1, 0}, {4, 0, 0}, {5, 1, 0}};
        for (int module = -2; module <= 4; module++) {
            for (int what = -2; what <= 5; what++) {
                boolean allowed = module >= 0 && module <= 2 && what >= 0 && what <= 2;
                int answer = allowed ? want[module][what] : GateStack.REFUSED;
                c.due("state " + module + " " + what, x.state(module, what), answer);
            }
        }
        int[] far = {Integer.MIN_VALUE, Integer.MAX_VALUE};
        for (int number : far) {
            c.due("state " + number + " 0", x.state(number, 0), GateStack.REFUSED);
            c.due("state 0 " + number, x.state(0, number), GateStack.REFUSED);
        }
    }

    private static void lengths(Check c) {
        c.says("0: its length");
        for (int module = 0; module < 3; module++) {
            GateStack x = new GateStack();
            for (int length = 0; length <= 60; length++) {
                c.due("length", x.state(module, 0), length);
                c.due("length of the next", x.state((module + 1) % 3, 0), 0);
                x.sign(module, 'A');
            }
            x.sign(module, 'A');
            c.due("length of a full text", x.state(module, 0), 60);
            x.clear(module);
            c.due("length of a cleared text", x.state(module, 0), 0);
        }
    }

    private static void compiled(Check c) {
        c.says("1: 1 if it is COMPILED, else 0");
        GateStack x = new GateStack();
        c.due("empty at first", x.state(2, 1), 1);
        Check.put(x, 2, "A{}");
        c.due("written", x.state(2, 1), 0);
        x.fault(2);
        c.due("asked for a fault", x.state(2, 1), 0);
        x.compile(1);
        c.due("another one compiled", x.state(2, 1), 0);
        x.link();
        c.due("link refused", x.state(2, 1), 0);
        x.compile(2);
        c.due("compiled", x.state(2, 1), 1);
        x.link();
        c.due("link that finds no M", x.state(2, 1), 1);
        x.sign(1, 'B');
        c.due("another one written on", x.state(2, 1), 1);
        x.sign(2, 31);
        c.due("a sign refused", x.state(2, 1), 1);
        x.sign(2, 'A');
        c.due("written on", x.state(2, 1), 0);
        x.compile(2);
        c.due("BAD", x.state(2, 1), 0);
        Check.put(x, 2, "{}");
        x.compile(2);
        c.due("DOUBLE", x.state(2, 1), 0);
        x.clear(2);
        c.due("cleared", x.state(2, 1), 1);
    }

    private static void linked(Check c) {
        c.says("2: 1 if the modules are LINKED, else 0");
        for (Situation situation : Situation.all()) {
            GateStack x = situation.maker.get();
            for (int module = 0; module < 3; module++) {
                c.due(situation.name, x.state(module, 2), situation.linked ? 1 : 0);
            }
        }
    }
}
