import java.util.function.ToLongFunction;

/** Terms: every call that is refused, in every situation, and the state that it leaves as it was. */
public final class EdgeTermsRefusedTest {
    private static final int LEAST = Integer.MIN_VALUE;
    private static final int GREATEST = Integer.MAX_VALUE;
    private static final int[] NO_MODULES = {-1, 3, LEAST, GREATEST};
    private static final int[] NO_CODES = {32, 127, 0, -1, 10, 256 + 'A', LEAST, GREATEST};
    private static final int[] NO_STEPS = {0, 5, -1, LEAST, GREATEST};
    private static final int[] NO_VARIABLES = {-1, 8, 'a', 'h', LEAST, GREATEST};
    private static final int[] NO_OUTPUTS = {-1, 24, 25, LEAST, GREATEST};
    private static final int[] NO_PLACES = {-1, 4, LEAST, GREATEST};
    private static final int[] NO_OPERATIONS = {-1, 6, 7, '+', LEAST, GREATEST};
    private static final int[] NO_STATES = {-1, 3, LEAST, GREATEST};

    private final Check check;
    private final Situation situation;

    private EdgeTermsRefusedTest(Check check, Situation situation) {
        this.check = check;
        this.situation = situation;
    }

    public static void main(String[] args) {
        Check c = new Check("refused");
        for (Situation situation : Situation.all()) {
            EdgeTermsRefusedTest test = new EdgeTermsRefusedTest(c, situation);
            test.holds();
            test.numbersOfTexts();
            test.numbersOfRuns();
            test.numbersOfQuestions();
            test.whatItsCommentSays();
        }
        fullTexts(c);
        c.end();
    }

    private void refused(String what, ToLongFunction<GateStack> call, long answer) {
        Trace.none(check, situation.name + ", " + what, situation.maker, call, answer);
    }

    private void holds() {
        GateStack x = situation.maker.get();
        boolean compiled = x.state(0, 1) + x.state(1, 1) + x.state(2, 1) == 3;
        check.due(situation.name + ", all compiled", compiled ? 1 : 0, situation.compiled ? 1 : 0);
        check.dueLinkAndRun(situation.name, x, situation.linked ? 1 : 0, situation.going);
    }

    private void numbersOfTexts() {
        check.says("numbers out of range answer REFUSED and change nothing");
        for (int module : NO_MODULES) {
            refused("sign " + module, x -> x.sign(module, 'A'), GateStack.REFUSED);
            refused("clear " + module, x -> x.clear(module), GateStack.REFUSED);
            refused("compile " + module, x -> x.compile(module), GateStack.REFUSED);
            refused("fault " + module, x -> x.fault(module), GateStack.REFUSED);
            for (int what = -1; what < 4; what++) {
                int asked = what;
                refused("state " + module + " " + asked, x -> x.state(module, asked), GateStack.REFUSED);
            }
        }
        for (int code : NO_CODES) {
            for (int module = -1; module < 4; module++) {
                int asked = module;
                refused("sign " + asked + " " + code, x -> x.sign(asked, code), GateStack.REFUSED);
            }
        }
    }

    private void numbersOfRuns() {
        check.says("numbers out of range answer REFUSED and change nothing");
        for (int n : NO_STEPS) {
            refused("run " + n, x -> x.run(n), GateStack.REFUSED);
        }
        for (int variable : NO_VARIABLES) {
            refused("set " + variable, x -> x.set(variable, 99), GateStack.REFUSED);
            refused("set to 0 " + variable, x -> x.set(variable, 0), GateStack.REFUSED);
        }
    }

    private void numbersOfQuestions() {
        check.says("numbers out of range answer REFUSED (NONE where the answer is a long)");
        for (int variable : NO_VARIABLES) {
            refused("get " + variable, x -> x.get(variable), GateStack.NONE);
        }
        for (int i : NO_OUTPUTS) {
            refused("output " + i, x -> x.output(i), GateStack.NONE);
        }
        for (int operation : NO_OPERATIONS) {
            refused("operate " + operation, x -> x.operate(operation, 3, 3), GateStack.NONE);
        }
        for (int what : NO_PLACES) {
            refused("at " + what, x -> x.at(what), GateStack.REFUSED);
        }
        for (int what : NO_STATES) {
            for (int module = 0; module < 3; module++) {
                int asked = module;
                refused("state " + asked + " " + what, x -> x.state(asked, what), GateStack.REFUSED);
            }
        }
    }

    private void whatItsCommentSays() {
        check.says("all else that is said to be refused answers REFUSED and changes nothing");
        if (!situation.compiled) {
            refused("link", GateStack::link, GateStack.REFUSED);
        }
        if (!situation.linked || situation.going) {
            refused("start", GateStack::start, GateStack.REFUSED);
        }
        if (!situation.going) {
            refused("stop", GateStack::stop, GateStack.REFUSED);
            for (int n = 1; n <= 4; n++) {
                int steps = n;
                refused("run " + steps, x -> x.run(steps), GateStack.REFUSED);
            }
        }
    }

    private static void fullTexts(Check c) {
        c.says("it has 60 signs: REFUSED");
        for (Situation situation : Situation.all()) {
            if (!situation.name.equals("with full texts")) {
                continue;
            }
            for (int code = 32; code <= 127; code++) {
                int tried = code;
                Trace.none(c, "sign " + tried, situation.maker, x -> x.sign(1, tried), GateStack.REFUSED);
            }
        }
    }
}
