/** Counts and prints the answers that are not as due. */
final class Check {
    private final String name;
    private String sentence = "";
    private int wrong;

    Check(String name) {
        this.name = name;
    }

    /** Names the sentence of the document that the answers from here on are due by. */
    void says(String words) {
        sentence = " \"" + words + "\":";
    }

    void due(String what, long got, long want) {
        if (got != want) {
            wrong++;
            System.out.println(name + ":" + sentence + " " + what + " answered " + got + ", due is " + want);
        }
    }

    void end() {
        if (wrong != 0) {
            System.exit(1);
        }
    }

    static void put(GateStack x, int module, String text) {
        for (int i = 0; i < text.length(); i++) {
            if (x.sign(module, text.charAt(i)) == GateStack.REFUSED) {
                throw new IllegalStateException("refused at " + i + ": " + text);
            }
        }
    }

    static GateStack with(String... texts) {
        GateStack x = new GateStack();
        for (int i = 0; i < texts.length; i++) {
            put(x, i, texts[i]);
        }
        return x;
    }

    static GateStack compiled(String... texts) {
        GateStack x = with(texts);
        for (int i = 0; i < texts.length; i++) {
            x.compile(i);
        }
        return x;
    }

    static GateStack linked(String... texts) {
        GateStack x = compiled(texts);
        x.link();
        return x;
    }

    static GateStack started(String... texts) {
        GateStack x = linked(texts);
        x.start();
        return x;
    }

    static void runToEnd(GateStack x) {
        for (int i = 0; i < 400 && x.run(4) == 1; i++) {
            continue;
        }
    }

    /** Whether the modules are linked, and whether a run is going on. */
    void dueLinkAndRun(String what, GateStack x, int linked, boolean going) {
        due(what + ": linked", x.state(0, 2), linked);
        due(what + ": going on", x.at(2) > 0 ? 1 : 0, going ? 1 : 0);
    }
}
