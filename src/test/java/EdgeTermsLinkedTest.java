import java.util.function.ToLongFunction;

/** Terms: COMPILED, LINKED, and a run that ends with them. */
public final class EdgeTermsLinkedTest {
    public static void main(String[] args) {
        Check c = new Check("Terms, linked");
        atFirst(c);
        textsChange(c);
        modulesAreCompiled(c);
        runsEnd(c);
        callsAtAnyDepth(c);
        c.end();
    }

    private static void atFirst(Check c) {
        c.says("A module is COMPILED or not (each is at first: the empty text has no procedures)");
        GateStack x = new GateStack();
        for (int module = 0; module < 3; module++) {
            c.due("compiled " + module, x.state(module, 1), 1);
        }
        c.says("The modules are LINKED or not (at first not)");
        for (int module = 0; module < 3; module++) {
            c.due("linked " + module, x.state(module, 2), 0);
        }
        c.due("link needs no compile of empty texts", x.link(), GateStack.MISSING);
        Check.put(x, 0, "M{}");
        x.compile(0);
        c.due("link with two empty texts", x.link(), 1);
    }

    private static GateStack running() {
        GateStack x = Check.started("M{a=1;A;}", "A{!7;B;}", "B{!8;!9;}");
        x.run(4);
        return x;
    }

    private static void ends(Check c, String what, ToLongFunction<GateStack> call, long answer) {
        GateStack x = running();
        c.dueLinkAndRun(what + ", before", x, 1, true);
        c.due(what, call.applyAsLong(x), answer);
        c.dueLinkAndRun(what, x, 0, false);
        for (int i = 0; i < 3; i++) {
            c.due(what + ", at " + i, x.at(i), 0);
        }
        c.due(what + ", run", x.run(1), GateStack.REFUSED);
        c.due(what + ", stop", x.stop(), GateStack.REFUSED);
        c.due(what + ", start", x.start(), GateStack.REFUSED);
        c.due(what + ", outputs", x.at(3), 1);
        c.due(what + ", output", x.output(0), 7);
        c.due(what + ", variable", x.get(0), 1);
    }

    private static void textsChange(Check c) {
        c.says("Whenever a text changes they are not LINKED, and a run that is going on ends");
        for (int i = 0; i < 3; i++) {
            int module = i;
            ends(c, "sign in " + i, x -> x.sign(module, 'Z'), module == 0 ? 10 : module == 1 ? 9 : 10);
            ends(c, "clear of " + i, x -> x.clear(module), GateStack.DONE);
        }
        c.says("The module is not COMPILED, the others are as they were");
        for (int module = 0; module < 3; module++) {
            GateStack x = running();
            x.sign(module, 'Z');
            for (int other = 0; other < 3; other++) {
                c.due("compiled " + other, x.state(other, 1), other == module ? 0 : 1);
            }
        }
    }

    private static void modulesAreCompiled(Check c) {
        c.says("Whenever a module is compiled, they are not LINKED, and a run that is going on ends");
        for (int i = 0; i < 3; i++) {
            int module = i;
            ends(c, "compile of " + i, x -> x.compile(module), 1);
        }
        GateStack x = Check.started("M{!1;}");
        c.due("compile of an empty text", x.compile(2), 0);
        c.dueLinkAndRun("compile of an empty text", x, 0, false);
        c.due("link again", x.link(), 1);
        c.dueLinkAndRun("link again", x, 1, false);
    }

    private static void runsEnd(Check c) {
        c.says("LINKED stays when a run begins, goes on, ends or is stopped");
        GateStack x = Check.linked("M{!1;!2;}");
        c.dueLinkAndRun("linked", x, 1, false);
        x.start();
        c.dueLinkAndRun("started", x, 1, true);
        x.run(1);
        c.dueLinkAndRun("one step", x, 1, true);
        x.run(1);
        c.dueLinkAndRun("ended", x, 1, false);
        x.start();
        x.stop();
        c.dueLinkAndRun("stopped", x, 1, false);
    }

    private static void callsAtAnyDepth(Check c) {
        c.says("A procedure CALLS another one (or itself) if a call of it stands in it, at any depth");
        String[] bodies = {"%;", "?0{%;}", "?0{}:{%;}", "@0{%;}", "?0{?0{?0{?0{?0{%;}}}}}",
            "@0{@0{@0{@0{@0{%;}}}}}", "?0{?0{?0{?0{?0{}:{%;}}}}}", "!1;a=2;?a{}%;"};
        for (String body : bodies) {
            String circle = "M{" + body.replace('%', 'M') + "}";
            String missing = "M{" + body.replace('%', 'Z') + "}";
            c.due(circle, Check.compiled(circle).link(), GateStack.CIRCLE);
            c.due(missing, Check.compiled(missing).link(), GateStack.MISSING);
            c.due(missing + " with Z", Check.compiled(missing, "Z{}").link(), 2);
        }
        c.says("a variable or a procedure's own letter is no call");
        c.due("letters only", Check.compiled("M{a=a;h=h;}A{}H{}").link(), 3);
    }
}
