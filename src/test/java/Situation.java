import java.util.List;
import java.util.function.Supplier;

/** A point in the life of an object, made anew each time it is asked for, and what holds there. */
final class Situation {
    static final String FULL = "A{!a;a=a+1;!1111;!2222;!3333;!4444;!5555;!6666;!7777;!8888;}";

    final String name;
    final Supplier<GateStack> maker;
    final boolean compiled;
    final boolean linked;
    final boolean going;

    private Situation(String name, String holds, Supplier<GateStack> maker) {
        this.name = name;
        this.maker = maker;
        this.compiled = holds.contains("compiled");
        this.linked = holds.contains("linked");
        this.going = holds.contains("going");
    }

    static List<Situation> all() {
        return List.of(
            new Situation("a new object", "compiled", GateStack::new),
            new Situation("texts not compiled", "", Situation::texts),
            new Situation("texts that are BAD and DOUBLE", "", Situation::spoiled),
            new Situation("compiled", "compiled", () -> filled(Check.compiled("M{A;!b;}", "A{!2;}"))),
            new Situation("not linked for DOUBLE", "compiled", () -> Check.linked("M{A;}A{}", "A{}")),
            new Situation("not linked for MISSING", "compiled", () -> Check.linked("M{A;}", "B{}")),
            new Situation("not linked for CIRCLE", "compiled", () -> Check.linked("M{A;}", "", "A{M;}")),
            new Situation("linked", "compiled linked", () -> filled(Check.linked("M{A;!b;}", "A{!2;}"))),
            new Situation("just started", "compiled linked going", Situation::started),
            new Situation("in a procedure", "compiled linked going", Situation::inProcedure),
            new Situation("past the 24th output", "compiled linked going", Situation::pastKept),
            new Situation("with full texts", "compiled linked going", Situation::full),
            new Situation("stopped", "compiled linked", Situation::stopped),
            new Situation("ended", "compiled linked", Situation::ended),
            new Situation("ended at once", "compiled linked", () -> Check.started("A{!1;}M{}")),
            new Situation("ended by a sign", "", Situation::endedBySign),
            new Situation("ended by clear", "compiled", Situation::endedByClear),
            new Situation("ended by compile", "compiled", Situation::endedByCompile),
            new Situation("ended by link", "compiled linked", Situation::endedByLink));
    }

    private static GateStack filled(GateStack x) {
        for (int variable = 0; variable < 8; variable++) {
            x.set(variable, variable * 11 - 30);
        }
        return x;
    }

    private static GateStack texts() {
        return filled(Check.with("M{!a;A;}", "A{?1{!2;}:{!3;", "B{!12345;}"));
    }

    private static GateStack spoiled() {
        return filled(Check.compiled("M{!a;A;", "A{}B{}A{}", "C{!((((((1"));
    }

    private static GateStack started() {
        return filled(Check.started("M{@c{A;c=c+1;}!9;}", "", "A{!c;?a{!a;}:{!b;}}"));
    }

    private static GateStack inProcedure() {
        GateStack x = started();
        x.run(4);
        x.run(4);
        return x;
    }

    private static GateStack pastKept() {
        GateStack x = Check.started("M{@1{!a;a=a-1;!a+b;}}");
        for (int i = 0; i < 14; i++) {
            x.run(4);
        }
        return x;
    }

    private static GateStack full() {
        GateStack x = filled(Check.started("M{A;}", FULL));
        x.run(4);
        return x;
    }

    private static GateStack stopped() {
        GateStack x = inProcedure();
        x.stop();
        return x;
    }

    private static GateStack ended() {
        GateStack x = filled(Check.started("M{!a;!h;A;}", "A{a=7;}"));
        Check.runToEnd(x);
        return x;
    }

    private static GateStack endedBySign() {
        GateStack x = inProcedure();
        x.sign(1, 'Z');
        return x;
    }

    private static GateStack endedByClear() {
        GateStack x = inProcedure();
        x.clear(2);
        return x;
    }

    private static GateStack endedByCompile() {
        GateStack x = inProcedure();
        x.compile(0);
        return x;
    }

    private static GateStack endedByLink() {
        GateStack x = inProcedure();
        x.link();
        return x;
    }
}
