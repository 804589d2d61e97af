/**
 * Modules of procedures in a small integer language: read, compiled and linked, then run a step
 * at a time, with variables, outputs, and the place where the run is.
 *
 * All rows are made in the constructors: no later call makes an object.
 */
public final class GateStack {
    public static final int DONE = 0;
    public static final int REFUSED = -1;
    public static final int BAD = -2;
    public static final int DOUBLE = -3;
    public static final int MISSING = -4;
    public static final int CIRCLE = -5;
    public static final long NONE = -1000000000000L;

    private static final int MODULES = 3;
    private static final int TEXT_ROOM = 60;
    private static final int FIRST_CODE = 33;
    private static final int LAST_CODE = 126;
    private static final int OPEN_ROOM = 6;
    private static final int MOST_DIGITS = 4;
    private static final int LETTERS = 26;
    private static final int MAIN_LETTER = 'M' - 'A';
    private static final int VARIABLES = 8;
    private static final int KEPT_OUTPUTS = 24;
    private static final int MOST_STEPS = 4;
    private static final int WHOLE = -2;
    private static final int NO_SIGN = 0;

    private static final int PLUS = 0;
    private static final int MINUS = 1;
    private static final int AND = 2;
    private static final int OR = 3;
    private static final int XOR = 4;
    private static final int LESS = 5;
    private static final int EQUAL = 6;
    private static final int NO_OPERATION = -1;

    private final ModuleText[] modules;
    private final Reader reader;
    private final Program program;
    private final Calculator calculator;
    private final Machine machine;
    private boolean linked;

    public GateStack() {
        modules = new ModuleText[MODULES];
        for (int i = 0; i < MODULES; i++) {
            modules[i] = new ModuleText();
        }
        reader = new Reader();
        program = new Program();
        calculator = new Calculator();
        machine = new Machine();
        linked = false;
    }

    public int sign(int module, int code) {
        if (!isModule(module) || code < FIRST_CODE || code > LAST_CODE) {
            return REFUSED;
        }
        if (!modules[module].append(code)) {
            return REFUSED;
        }
        loosen();
        return modules[module].length();
    }

    public int clear(int module) {
        if (!isModule(module)) {
            return REFUSED;
        }
        modules[module].empty();
        loosen();
        return DONE;
    }

    public int compile(int module) {
        if (!isModule(module)) {
            return REFUSED;
        }
        ModuleText text = modules[module];
        boolean whole = reader.faultOf(text) == WHOLE;
        text.mark(whole && !text.hasTwins());
        loosen();
        if (!whole) {
            return BAD;
        }
        return text.hasTwins() ? DOUBLE : Integer.bitCount(text.defined());
    }

    public int fault(int module) {
        return isModule(module) ? reader.faultOf(modules[module]) : REFUSED;
    }

    public int link() {
        for (int i = 0; i < MODULES; i++) {
            if (!modules[i].isCompiled()) {
                return REFUSED;
            }
        }
        loosen();
        int answer = program.join(modules);
        linked = answer >= 0;
        return answer;
    }

    public int start() {
        if (!linked || machine.isGoing()) {
            return REFUSED;
        }
        machine.begin(program);
        return machine.isGoing() ? 1 : 0;
    }

    public int run(int n) {
        if (n < 1 || n > MOST_STEPS || !machine.isGoing()) {
            return REFUSED;
        }
        for (int i = 0; i < n && machine.isGoing(); i++) {
            machine.step(program, calculator);
        }
        return machine.isGoing() ? 1 : 0;
    }

    public int stop() {
        if (!machine.isGoing()) {
            return REFUSED;
        }
        machine.halt();
        return DONE;
    }

    public int set(int variable, int value) {
        return calculator.assign(variable, value) ? DONE : REFUSED;
    }

    public long get(int variable) {
        return isVariableNumber(variable) ? calculator.variable(variable) : NONE;
    }

    public long output(int i) {
        return machine.hasKept(i) ? machine.kept(i) : NONE;
    }

    public int at(int what) {
        switch (what) {
            case 0:
                return machine.letterCode();
            case 1:
                return machine.statementNumber(program);
            case 2:
                return machine.depth();
            case 3:
                return machine.outputCount();
            default:
                return REFUSED;
        }
    }

    public long operate(int operation, int one, int other) {
        if (operation < PLUS || operation > LESS) {
            return NONE;
        }
        return worked(operation, one, other);
    }

    public int state(int module, int what) {
        if (!isModule(module)) {
            return REFUSED;
        }
        switch (what) {
            case 0:
                return modules[module].length();
            case 1:
                return modules[module].isCompiled() ? 1 : 0;
            case 2:
                return linked ? 1 : 0;
            default:
                return REFUSED;
        }
    }

    private void loosen() {
        linked = false;
        machine.halt();
    }

    private static boolean isModule(int module) {
        return module >= 0 && module < MODULES;
    }

    private static boolean isVariableNumber(int variable) {
        return variable >= 0 && variable < VARIABLES;
    }

    private static boolean isLetterNumber(int letter) {
        return letter >= 0 && letter < LETTERS;
    }

    private static boolean isLetter(int sign) {
        return sign >= 'A' && sign <= 'Z';
    }

    private static boolean isVariable(int sign) {
        return sign >= 'a' && sign <= 'h';
    }

    private static boolean isDigit(int sign) {
        return sign >= '0' && sign <= '9';
    }

    private static boolean isPrefix(int sign) {
        return sign == '~' || sign == '-';
    }

    private static boolean hasBit(int mask, int bit) {
        return (mask >>> bit & 1) != 0;
    }

    private static int operationOf(int sign) {
        switch (sign) {
            case '+':
                return PLUS;
            case '-':
                return MINUS;
            case '&':
                return AND;
            case '|':
                return OR;
            case '^':
                return XOR;
            case '<':
                return LESS;
            case '=':
                return EQUAL;
            default:
                return NO_OPERATION;
        }
    }

    private static int worked(int operation, int one, int other) {
        switch (operation) {
            case PLUS:
                return one + other;
            case MINUS:
                return one - other;
            case AND:
                return one & other;
            case OR:
                return one | other;
            case XOR:
                return one ^ other;
            case LESS:
                return one < other ? 1 : 0;
            default:
                return one == other ? 1 : 0;
        }
    }

    /**
     * The text of a module and what the reader found in it. A block is known by its head: the
     * place of the procedure's letter, of '?' or '@', or of the ':' before a second block.
     */
    private static final class ModuleText {
        private final int[] signs = new int[TEXT_ROOM];
        private final int[] numbers = new int[TEXT_ROOM];
        private final int[] heads = new int[TEXT_ROOM];
        private final int[] ends = new int[TEXT_ROOM];
        private final int[] begins = new int[LETTERS];
        private final int[] calls = new int[LETTERS];
        private int length;
        private int defined;
        private boolean twins;
        private boolean compiled = true;

        boolean append(int code) {
            if (length >= TEXT_ROOM) {
                return false;
            }
            signs[length] = code;
            length++;
            compiled = false;
            return true;
        }

        void empty() {
            length = 0;
            forget();
            compiled = true;
        }

        // The other rows need no cleaning: they are only asked where the last reading wrote.
        void forget() {
            defined = 0;
            twins = false;
        }

        void mark(boolean isCompiled) {
            compiled = isCompiled;
        }

        void addProcedure(int letter, int place) {
            if (!isLetterNumber(letter)) {
                return;
            }
            twins = twins || hasBit(defined, letter);
            defined |= 1 << letter;
            begins[letter] = place;
            calls[letter] = 0;
        }

        void addCall(int from, int to) {
            if (isLetterNumber(from) && isLetterNumber(to)) {
                calls[from] |= 1 << to;
            }
        }

        void addStatement(int place, int number) {
            if (isPlace(place)) {
                numbers[place] = number;
            }
        }

        void addBlock(int head, int end) {
            if (isPlace(head) && isPlace(end)) {
                heads[end] = head;
                ends[head] = end;
            }
        }

        int length() {
            return length;
        }

        int defined() {
            return defined;
        }

        boolean hasTwins() {
            return twins;
        }

        boolean isCompiled() {
            return compiled;
        }

        int signAt(int place) {
            return place >= 0 && place < length ? signs[place] : NO_SIGN;
        }

        int numberAt(int place) {
            return isPlace(place) ? numbers[place] : 0;
        }

        int callsOf(int letter) {
            return isLetterNumber(letter) ? calls[letter] : 0;
        }

        int firstPlaceOf(int letter) {
            return isLetterNumber(letter) ? begins[letter] + 2 : 0;
        }

        boolean endsProcedure(int end) {
            return isPlace(end) && isLetter(signAt(heads[end]));
        }

        int behindBlock(int end) {
            if (!isPlace(end)) {
                return end;
            }
            if (signAt(heads[end]) == '@') {
                return heads[end];
            }
            int behind = end + 1;
            return signAt(behind) == ':' ? behindEndOf(behind) : behind;
        }

        int placeIfZero(int head) {
            int behind = behindEndOf(head);
            return signAt(behind) == ':' ? behind + 2 : behind;
        }

        private int behindEndOf(int head) {
            return isPlace(head) ? ends[head] + 1 : head;
        }

        private boolean isPlace(int place) {
            return place >= 0 && place < length;
        }
    }

    /**
     * Reads a text sign by sign. It always knows what may come next, so the first sign that it
     * does not take is the first one that can't stand.
     */
    private static final class Reader {
        private static final int PROCEDURE = 0;
        private static final int BRACE = 1;
        private static final int STATEMENT = 2;
        private static final int STATEMENT_OR_COLON = 3;
        private static final int EQUALS_SIGN = 4;
        private static final int SEMICOLON = 5;
        private static final int OPERAND = 6;
        private static final int DIGIT_OR_OPERATOR = 7;
        private static final int OPERATOR = 8;

        // Places of what is open: the head for a block, the sign itself for '(', '~' and '-'.
        private final int[] open = new int[OPEN_ROOM];
        private int depth;
        private int expected;
        private int head;
        private int expressionEnd;
        private int digits;
        private int procedure;
        private int statements;

        int faultOf(ModuleText text) {
            text.forget();
            depth = 0;
            expected = PROCEDURE;
            int length = text.length();
            for (int place = 0; place < length; place++) {
                if (!takes(text, place)) {
                    return place;
                }
            }
            return expected == PROCEDURE ? WHOLE : length;
        }

        private boolean takes(ModuleText text, int place) {
            int sign = text.signAt(place);
            switch (expected) {
                case PROCEDURE:
                    return takesProcedure(text, place);
                case BRACE:
                    return sign == '{' && opens(head, STATEMENT);
                case STATEMENT:
                    return takesStatement(text, place);
                case STATEMENT_OR_COLON:
                    return sign == ':' ? begins(place, BRACE) : takesStatement(text, place);
                case EQUALS_SIGN:
                    return sign == '=' && expects(OPERAND);
                case SEMICOLON:
                    return sign == ';' && expects(STATEMENT);
                case OPERAND:
                    return takesOperand(text, place);
                case DIGIT_OR_OPERATOR:
                    return isDigit(sign) ? takesDigit() : takesOperator(text, place);
                default:
                    return takesOperator(text, place);
            }
        }

        private boolean takesProcedure(ModuleText text, int place) {
            int sign = text.signAt(place);
            if (!isLetter(sign)) {
                return false;
            }
            procedure = sign - 'A';
            statements = 0;
            text.addProcedure(procedure, place);
            return begins(place, BRACE);
        }

        private boolean takesStatement(ModuleText text, int place) {
            int sign = text.signAt(place);
            if (sign == '}') {
                return closesBlock(text, place);
            }
            int next = behindFirstSign(sign);
            if (next == STATEMENT) {
                return false;
            }
            if (next == SEMICOLON) {
                text.addCall(procedure, sign - 'A');
            }
            statements++;
            text.addStatement(place, statements);
            expressionEnd = sign == '?' || sign == '@' ? '{' : ';';
            return begins(place, next);
        }

        /** What comes behind the first sign of a statement; STATEMENT if none begins so. */
        private static int behindFirstSign(int sign) {
            if (isVariable(sign)) {
                return EQUALS_SIGN;
            }
            if (isLetter(sign)) {
                return SEMICOLON;
            }
            return sign == '!' || sign == '?' || sign == '@' ? OPERAND : STATEMENT;
        }

        private boolean closesBlock(ModuleText text, int place) {
            if (depth < 1) {
                return false;
            }
            depth--;
            int blockHead = open[depth];
            text.addBlock(blockHead, place);
            int sign = text.signAt(blockHead);
            if (isLetter(sign)) {
                return expects(PROCEDURE);
            }
            return expects(sign == '?' ? STATEMENT_OR_COLON : STATEMENT);
        }

        private boolean takesOperand(ModuleText text, int place) {
            int sign = text.signAt(place);
            if (sign == '(' || isPrefix(sign)) {
                return opens(place, OPERAND);
            }
            if (isVariable(sign)) {
                return endsOperand(text, OPERATOR);
            }
            // Further digits open nothing, so the signs before a number may close at its first.
            digits = 1;
            return isDigit(sign) && endsOperand(text, DIGIT_OR_OPERATOR);
        }

        private boolean takesDigit() {
            digits++;
            return digits <= MOST_DIGITS;
        }

        private boolean takesOperator(ModuleText text, int place) {
            int sign = text.signAt(place);
            if (operationOf(sign) != NO_OPERATION) {
                return expects(OPERAND);
            }
            boolean inParentheses = lastOpen(text) == '(';
            if (sign != (inParentheses ? ')' : expressionEnd)) {
                return false;
            }
            if (inParentheses) {
                depth--;
                return endsOperand(text, OPERATOR);
            }
            return sign == '{' ? opens(head, STATEMENT) : expects(STATEMENT);
        }

        private boolean endsOperand(ModuleText text, int next) {
            while (depth > 0 && isPrefix(lastOpen(text))) {
                depth--;
            }
            return expects(next);
        }

        private int lastOpen(ModuleText text) {
            return depth > 0 ? text.signAt(open[depth - 1]) : NO_SIGN;
        }

        private boolean opens(int place, int next) {
            if (depth >= OPEN_ROOM) {
                return false;
            }
            open[depth] = place;
            depth++;
            return expects(next);
        }

        private boolean begins(int place, int next) {
            head = place;
            return expects(next);
        }

        private boolean expects(int next) {
            expected = next;
            return true;
        }
    }

    /** The procedures of all modules: where each is, and which ones it reaches by calls. */
    private static final class Program {
        private final ModuleText[] homes = new ModuleText[LETTERS];
        private final int[] reached = new int[LETTERS];
        private int defined;

        /** Answers the number of procedures, or DOUBLE, MISSING or CIRCLE. */
        int join(ModuleText[] modules) {
            forget();
            for (int i = 0; i < modules.length; i++) {
                if ((defined & modules[i].defined()) != 0) {
                    return DOUBLE;
                }
                defined |= modules[i].defined();
                takeOver(modules[i]);
            }
            if (lacksOne()) {
                return MISSING;
            }
            followChains();
            return hasCircle() ? CIRCLE : Integer.bitCount(defined);
        }

        ModuleText homeOf(int letter) {
            return isLetterNumber(letter) ? homes[letter] : null;
        }

        private void forget() {
            defined = 0;
            for (int letter = 0; letter < LETTERS; letter++) {
                homes[letter] = null;
                reached[letter] = 0;
            }
        }

        private void takeOver(ModuleText text) {
            for (int letter = 0; letter < LETTERS; letter++) {
                if (hasBit(text.defined(), letter)) {
                    homes[letter] = text;
                    reached[letter] = text.callsOf(letter);
                }
            }
        }

        private boolean lacksOne() {
            int wanted = 1 << MAIN_LETTER;
            for (int letter = 0; letter < LETTERS; letter++) {
                wanted |= reached[letter];
            }
            return (wanted & ~defined) != 0;
        }

        // With each procedure in turn allowed between the ends of a chain, all chains are found.
        private void followChains() {
            for (int between = 0; between < LETTERS; between++) {
                for (int from = 0; from < LETTERS; from++) {
                    if (hasBit(reached[from], between)) {
                        reached[from] |= reached[between];
                    }
                }
            }
        }

        private boolean hasCircle() {
            for (int letter = 0; letter < LETTERS; letter++) {
                if (hasBit(reached[letter], letter)) {
                    return true;
                }
            }
            return false;
        }
    }

    /** The variables, and expressions of a compiled text worked out with them. */
    private static final class Calculator {
        private final int[] variables = new int[VARIABLES];
        private int cursor;

        boolean assign(int variable, int value) {
            if (!isVariableNumber(variable)) {
                return false;
            }
            variables[variable] = value;
            return true;
        }

        int variable(int variable) {
            return isVariableNumber(variable) ? variables[variable] : 0;
        }

        int valueAt(ModuleText text, int place) {
            cursor = place;
            return expression(text, 0);
        }

        /** The place of the sign behind the expression that was worked out last. */
        int cursor() {
            return cursor;
        }

        private int expression(ModuleText text, int depth) {
            int value = operand(text, depth);
            for (int i = 0; i < TEXT_ROOM; i++) {
                int operation = operationOf(text.signAt(cursor));
                if (operation == NO_OPERATION) {
                    break;
                }
                cursor++;
                value = worked(operation, value, operand(text, depth));
            }
            return value;
        }

        private int operand(ModuleText text, int depth) {
            int sign = text.signAt(cursor);
            if (isDigit(sign)) {
                return number(text);
            }
            cursor++;
            if (isVariable(sign)) {
                return variables[sign - 'a'];
            }
            if (depth >= OPEN_ROOM) {
                return 0;
            }
            if (sign == '~') {
                return ~operand(text, depth + 1);
            }
            if (sign == '-') {
                return -operand(text, depth + 1);
            }
            int value = expression(text, depth + 1);
            cursor++;
            return value;
        }

        private int number(ModuleText text) {
            int value = 0;
            for (int i = 0; i < MOST_DIGITS && isDigit(text.signAt(cursor)); i++) {
                value = value * 10 + text.signAt(cursor) - '0';
                cursor++;
            }
            return value;
        }
    }

    /**
     * The run: one row entry for each procedure that is begun and not done, with the place where
     * it goes on. The run is going on while there is an entry.
     */
    private static final class Machine {
        // No circle of calls is linked, so no letter is begun twice at once.
        private final int[] letters = new int[LETTERS];
        private final int[] places = new int[LETTERS];
        private final int[] outputs = new int[KEPT_OUTPUTS];
        private int depth;
        private int outputCount;

        boolean isGoing() {
            return depth > 0;
        }

        int depth() {
            return depth;
        }

        int outputCount() {
            return outputCount;
        }

        boolean hasKept(int i) {
            return i >= 0 && i < KEPT_OUTPUTS && i < outputCount;
        }

        int kept(int i) {
            return hasKept(i) ? outputs[i] : 0;
        }

        int letterCode() {
            return depth > 0 ? 'A' + letters[depth - 1] : 0;
        }

        int statementNumber(Program program) {
            ModuleText text = currentText(program);
            return text == null ? 0 : text.numberAt(places[depth - 1]);
        }

        void halt() {
            depth = 0;
        }

        void begin(Program program) {
            outputCount = 0;
            depth = 0;
            enter(program, MAIN_LETTER);
            leaveEndedBlocks(program);
        }

        void step(Program program, Calculator calculator) {
            ModuleText text = currentText(program);
            if (text == null) {
                return;
            }
            int top = depth - 1;
            int place = places[top];
            int sign = text.signAt(place);
            if (isLetter(sign)) {
                places[top] = place + 2;
                enter(program, sign - 'A');
            } else {
                places[top] = placeBehind(text, place, calculator);
            }
            leaveEndedBlocks(program);
        }

        private ModuleText currentText(Program program) {
            return depth > 0 ? program.homeOf(letters[depth - 1]) : null;
        }

        private void enter(Program program, int letter) {
            ModuleText text = program.homeOf(letter);
            if (text == null || depth >= LETTERS) {
                return;
            }
            letters[depth] = letter;
            places[depth] = text.firstPlaceOf(letter);
            depth++;
        }

        /** Does a statement that is no call, or its test, and answers the place that follows. */
        private int placeBehind(ModuleText text, int place, Calculator calculator) {
            int sign = text.signAt(place);
            boolean assigns = isVariable(sign);
            int value = calculator.valueAt(text, assigns ? place + 2 : place + 1);
            int behind = calculator.cursor() + 1;
            if (assigns) {
                calculator.assign(sign - 'a', value);
                return behind;
            }
            if (sign == '!') {
                keep(value);
                return behind;
            }
            return value != 0 ? behind : text.placeIfZero(place);
        }

        private void keep(int value) {
            if (outputCount < KEPT_OUTPUTS) {
                outputs[outputCount] = value;
            }
            outputCount++;
        }

        // Each turn leaves a block for good or comes to a test, so a procedure takes few turns.
        private void leaveEndedBlocks(Program program) {
            for (int i = 0; i < LETTERS * OPEN_ROOM; i++) {
                ModuleText text = currentText(program);
                if (text == null || text.signAt(places[depth - 1]) != '}') {
                    return;
                }
                int end = places[depth - 1];
                if (text.endsProcedure(end)) {
                    depth--;
                } else {
                    places[depth - 1] = text.behindBlock(end);
                }
            }
        }
    }
}
