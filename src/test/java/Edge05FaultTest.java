public final class Edge05FaultTest {
    public static void main(String[] args) {
        Check c = new Check("promise 5");
        modules(c);
        firstSign(c);
        lengthIfAllCan(c);
        whole(c);
        c.end();
    }

    private static void modules(Check c) {
        GateStack x = Check.with("M{", "A{}", "x");
        c.says("the module's text");
        c.due("fault 0", x.fault(0), 2);
        c.due("fault 1", x.fault(1), -2);
        c.due("fault 2", x.fault(2), 0);
        c.says("numbers out of range answer REFUSED");
        c.due("fault -1", x.fault(-1), GateStack.REFUSED);
        c.due("fault 3", x.fault(3), GateStack.REFUSED);
    }

    private static void firstSign(Check c) {
        c.says("The place of the first sign of the module's text that can't stand");
        for (int place = 0; place < 60; place++) {
            String spoiled = Situation.FULL.substring(0, place) + "$" + Situation.FULL.substring(place + 1);
            Reading.stopsAt(c, place, spoiled);
            for (int second = place + 1; second < 60; second += 7) {
                Reading.stopsAt(c, place, spoiled.substring(0, second) + "$" + spoiled.substring(second + 1));
            }
        }
    }

    private static void lengthIfAllCan(Check c) {
        c.says("its length if all can but it is no whole module");
        for (int length = 1; length < 60; length++) {
            Reading.unfinished(c, Situation.FULL.substring(0, length));
        }
        Reading.unfinished(c, Situation.FULL.substring(0, 59) + "a");
        Reading.unfinished(c, "A{}".repeat(19) + "A{?");
    }

    private static void whole(Check c) {
        c.says("-2 if it is a whole one");
        Reading.whole(c, "", 0);
        Reading.whole(c, "A{}", 1);
        Reading.whole(c, Situation.FULL, 1);
        Reading.twins(c, "A{}".repeat(20));
        c.says("the answer is of the text as it is now");
        GateStack x = new GateStack();
        c.due("empty", x.fault(2), -2);
        Check.put(x, 2, "A{}");
        c.due("whole", x.fault(2), -2);
        x.sign(2, 'B');
        c.due("written on", x.fault(2), 4);
        x.sign(2, '#');
        c.due("spoiled", x.fault(2), 4);
        x.clear(2);
        c.due("cleared", x.fault(2), -2);
    }
}
