import java.util.ArrayList;
import java.util.List;
import java.util.function.Supplier;
import java.util.function.ToLongFunction;

/**
 * Whether a call leaves a trace: of two objects made alike one gets the call, and then both are
 * asked for all that can be seen, and used further in the same way.
 */
final class Trace {
    static void none(Check c, String what, Supplier<GateStack> maker, ToLongFunction<GateStack> call,
            long answer) {
        GateStack tried = maker.get();
        GateStack left = maker.get();
        c.due(what, call.applyAsLong(tried), answer);
        same(c, what + ": seen", seen(tried), seen(left));
        same(c, what + ": later", later(tried), later(left));
    }

    private static void same(Check c, String what, List<Long> tried, List<Long> left) {
        c.due(what + ": how many", tried.size(), left.size());
        for (int i = 0; i < left.size(); i++) {
            c.due(what + " " + i, tried.get(i), left.get(i));
        }
    }

    /** All that can be asked without a change. */
    static List<Long> seen(GateStack x) {
        List<Long> answers = new ArrayList<>();
        for (int module = 0; module < 3; module++) {
            for (int what = 0; what < 3; what++) {
                answers.add((long) x.state(module, what));
            }
            answers.add((long) x.fault(module));
        }
        for (int variable = 0; variable < 8; variable++) {
            answers.add(x.get(variable));
        }
        for (int i = 0; i < 24; i++) {
            answers.add(x.output(i));
        }
        for (int what = 0; what < 4; what++) {
            answers.add((long) x.at(what));
        }
        return answers;
    }

    /** The run goes on, then another one is made of the same texts, and then they are written on. */
    private static List<Long> later(GateStack x) {
        List<Long> answers = new ArrayList<>();
        goOn(x, answers);
        answers.add((long) x.start());
        goOn(x, answers);
        for (int module = 0; module < 3; module++) {
            answers.add((long) x.compile(module));
        }
        answers.add((long) x.link());
        answers.add((long) x.start());
        goOn(x, answers);
        for (int module = 0; module < 3; module++) {
            answers.add((long) x.sign(module, '{'));
            answers.add((long) x.fault(module));
        }
        return answers;
    }

    private static void goOn(GateStack x, List<Long> answers) {
        for (int i = 0; i < 6; i++) {
            answers.add((long) x.run(1));
            for (int what = 0; what < 4; what++) {
                answers.add((long) x.at(what));
            }
            answers.add(x.output(x.at(3) - 1));
            answers.add(x.get(i));
        }
        answers.add((long) x.stop());
    }
}
