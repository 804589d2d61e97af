import java.util.function.ToLongFunction;

/** Calls that only ask: whatever they answer, everything is as it was. */
public final class EdgeTermsQuestionsTest {
    public static void main(String[] args) {
        Check c = new Check("questions");
        c.says("Nothing is promised beyond the answers and state changes described above");
        for (Situation situation : Situation.all()) {
            GateStack twin = situation.maker.get();
            for (int i = 0; i < 3; i++) {
                int module = i;
                asks(c, situation, "fault " + i, x -> x.fault(module), twin.fault(i));
                asks(c, situation, "length " + i, x -> x.state(module, 0), twin.state(i, 0));
                asks(c, situation, "compiled " + i, x -> x.state(module, 1), twin.state(i, 1));
                asks(c, situation, "linked " + i, x -> x.state(module, 2), twin.state(i, 2));
            }
            for (int i = 0; i < 4; i++) {
                int what = i;
                asks(c, situation, "at " + i, x -> x.at(what), twin.at(i));
            }
            for (int i = 0; i < 8; i++) {
                int variable = i;
                asks(c, situation, "get " + i, x -> x.get(variable), twin.get(i));
            }
            for (int i = 0; i < 24; i += 23) {
                int output = i;
                asks(c, situation, "output " + i, x -> x.output(output), twin.output(i));
            }
            for (int i = 0; i < 6; i++) {
                int operation = i;
                asks(c, situation, "operate " + i, x -> x.operate(operation, 6, 6), twin.operate(i, 6, 6));
            }
        }
        c.end();
    }

    private static void asks(Check c, Situation situation, String what, ToLongFunction<GateStack> call,
            long answer) {
        Trace.none(c, situation.name + ", " + what, situation.maker, call, answer);
    }
}
