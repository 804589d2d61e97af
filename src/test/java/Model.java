import java.util.ArrayDeque;
import java.util.ArrayList;
import java.util.Deque;
import java.util.HashMap;
import java.util.HashSet;
import java.util.List;
import java.util.Map;
import java.util.Set;

/**
 * The document built a second time, with trees, exceptions and maps, so that it shares no idea with
 * the class under test: a fault in the one is hardly a fault in the other.
 */
final class Model {
    private static final long NONE = -1000000000000L;

    /** A statement; kind is '=', '!', 'C' (call), '?' or '@'. */
    private static final class Node {
        char kind;
        char name;
        int number;
        Expression expression;
        List<Node> first = new ArrayList<>();
        List<Node> second = new ArrayList<>();
    }

    private interface Expression {
        int value(int[] variables);
    }

    private static final class Wrong extends RuntimeException {
        private static final long serialVersionUID = 1L;
        final int place;

        Wrong(int place) {
            this.place = place;
        }
    }

    private static final class Parser {
        final String text;
        final List<Character> names = new ArrayList<>();
        final List<List<Node>> bodies = new ArrayList<>();
        final List<Set<Character>> calls = new ArrayList<>();
        int place;
        int open;
        int number;

        Parser(String text) {
            this.text = text;
        }

        char peek() {
            return place < text.length() ? text.charAt(place) : 0;
        }

        char take(String allowed) {
            if (peek() == 0 || allowed.indexOf(peek()) < 0) {
                throw new Wrong(place);
            }
            return text.charAt(place++);
        }

        void open(char sign) {
            if (peek() == sign && open == 6) {
                throw new Wrong(place);
            }
            take("" + sign);
            open++;
        }

        void close(char sign) {
            take("" + sign);
            open--;
        }

        void module() {
            while (place < text.length()) {
                names.add(take("ABCDEFGHIJKLMNOPQRSTUVWXYZ"));
                calls.add(new HashSet<>());
                number = 0;
                bodies.add(block());
            }
        }

        List<Node> block() {
            List<Node> found = new ArrayList<>();
            open('{');
            while (peek() != '}') {
                found.add(statement());
            }
            close('}');
            return found;
        }

        Node statement() {
            Node node = new Node();
            node.number = ++number;
            char first = take("abcdefgh!?@ABCDEFGHIJKLMNOPQRSTUVWXYZ");
            node.kind = first >= 'A' && first <= 'Z' && first != '@' ? 'C' : first >= 'a' ? '=' : first;
            node.name = first;
            if (node.kind == 'C') {
                calls.get(calls.size() - 1).add(first);
                take(";");
                return node;
            }
            if (node.kind == '=') {
                take("=");
            }
            node.expression = expression();
            if (node.kind == '=' || node.kind == '!') {
                take(";");
                return node;
            }
            node.first = block();
            if (node.kind == '?' && peek() == ':') {
                take(":");
                node.second = block();
            }
            return node;
        }

        Expression expression() {
            Expression left = operand();
            while (peek() != 0 && "+-&|^<=".indexOf(peek()) >= 0) {
                char operator = take("+-&|^<=");
                Expression one = left;
                Expression other = operand();
                left = v -> apply(operator, one.value(v), other.value(v));
            }
            return left;
        }

        Expression operand() {
            char sign = peek();
            if (sign == '(') {
                open('(');
                Expression inner = expression();
                close(')');
                return inner;
            }
            if (sign == '~' || sign == '-') {
                open(sign);
                Expression inner = operand();
                open--;
                return sign == '~' ? v -> ~inner.value(v) : v -> -inner.value(v);
            }
            if (sign >= 'a' && sign <= 'h') {
                take("abcdefgh");
                return v -> v[sign - 'a'];
            }
            StringBuilder digits = new StringBuilder();
            digits.append(take("0123456789"));
            while (digits.length() < 4 && Character.isDigit(peek())) {
                digits.append(take("0123456789"));
            }
            int value = Integer.parseInt(digits.toString());
            return v -> value;
        }
    }

    /** A list of statements that is being done; the list of a procedure bears its letter. */
    private static final class Frame {
        final List<Node> list;
        final char procedure;
        int next;

        Frame(List<Node> list, char procedure) {
            this.list = list;
            this.procedure = procedure;
        }
    }

    private final String[] texts = {"", "", ""};
    private final boolean[] compiled = {true, true, true};
    private final int[] variables = new int[8];
    private final List<Integer> outputs = new ArrayList<>();
    private final Map<Character, List<Node>> program = new HashMap<>();
    private final Deque<Frame> frames = new ArrayDeque<>();
    private boolean linked;

    private static int apply(char operator, int one, int other) {
        switch (operator) {
            case '+': return (int) ((long) one + (long) other);
            case '-': return (int) ((long) one - (long) other);
            case '&': return one & other;
            case '|': return one | other;
            case '^': return one ^ other;
            case '<': return one < other ? 1 : 0;
            default: return one == other ? 1 : 0;
        }
    }

    private static boolean isModule(int module) {
        return 0 <= module && module <= 2;
    }

    private void unlink() {
        linked = false;
        frames.clear();
    }

    int sign(int module, int code) {
        if (!isModule(module) || code < 33 || code > 126 || texts[module].length() == 60) {
            return -1;
        }
        texts[module] += (char) code;
        compiled[module] = false;
        unlink();
        return texts[module].length();
    }

    int clear(int module) {
        if (!isModule(module)) {
            return -1;
        }
        texts[module] = "";
        compiled[module] = true;
        unlink();
        return 0;
    }

    int compile(int module) {
        if (!isModule(module)) {
            return -1;
        }
        unlink();
        compiled[module] = false;
        if (fault(module) != -2) {
            return -2;
        }
        List<Character> names = parsed(module).names;
        if (new HashSet<>(names).size() < names.size()) {
            return -3;
        }
        compiled[module] = true;
        return names.size();
    }

    private Parser parsed(int module) {
        Parser parser = new Parser(texts[module]);
        parser.module();
        return parser;
    }

    int fault(int module) {
        if (!isModule(module)) {
            return -1;
        }
        try {
            parsed(module);
            return -2;
        } catch (Wrong wrong) {
            return wrong.place;
        }
    }

    int link() {
        if (!compiled[0] || !compiled[1] || !compiled[2]) {
            return -1;
        }
        unlink();
        program.clear();
        Map<Character, Set<Character>> calls = new HashMap<>();
        int count = 0;
        for (int module = 0; module < 3; module++) {
            Parser parser = parsed(module);
            for (int i = 0; i < parser.names.size(); i++) {
                program.put(parser.names.get(i), parser.bodies.get(i));
                calls.put(parser.names.get(i), parser.calls.get(i));
                count++;
            }
        }
        if (program.size() < count) {
            return -3;
        }
        for (Set<Character> called : calls.values()) {
            if (!program.keySet().containsAll(called)) {
                return -4;
            }
        }
        if (!program.containsKey('M')) {
            return -4;
        }
        for (char name : program.keySet()) {
            if (reaches(calls, name, name, new HashSet<>())) {
                return -5;
            }
        }
        linked = true;
        return count;
    }

    private static boolean reaches(Map<Character, Set<Character>> calls, char from, char to,
            Set<Character> seen) {
        for (char next : calls.get(from)) {
            if (next == to || seen.add(next) && reaches(calls, next, to, seen)) {
                return true;
            }
        }
        return false;
    }

    private void drop() {
        while (!frames.isEmpty() && frames.peek().next == frames.peek().list.size()) {
            frames.pop();
        }
    }

    int start() {
        if (!linked || !frames.isEmpty()) {
            return -1;
        }
        outputs.clear();
        frames.push(new Frame(program.get('M'), 'M'));
        drop();
        return frames.isEmpty() ? 0 : 1;
    }

    int run(int n) {
        if (n < 1 || n > 4 || frames.isEmpty()) {
            return -1;
        }
        for (int i = 0; i < n && !frames.isEmpty(); i++) {
            step();
        }
        return frames.isEmpty() ? 0 : 1;
    }

    private void step() {
        Frame frame = frames.peek();
        Node node = frame.list.get(frame.next);
        frame.next++;
        if (node.kind == 'C') {
            frames.push(new Frame(program.get(node.name), node.name));
            drop();
            return;
        }
        int value = node.expression.value(variables);
        if (node.kind == '=') {
            variables[node.name - 'a'] = value;
        } else if (node.kind == '!') {
            outputs.add(value);
        } else if (node.kind == '?') {
            frames.push(new Frame(value != 0 ? node.first : node.second, (char) 0));
        } else if (value != 0) {
            frame.next--;
            frames.push(new Frame(node.first, (char) 0));
        }
        drop();
    }

    int stop() {
        if (frames.isEmpty()) {
            return -1;
        }
        frames.clear();
        return 0;
    }

    int set(int variable, int value) {
        if (variable < 0 || variable > 7) {
            return -1;
        }
        variables[variable] = value;
        return 0;
    }

    long get(int variable) {
        return variable < 0 || variable > 7 ? NONE : variables[variable];
    }

    long output(int i) {
        return i < 0 || i > 23 || i >= outputs.size() ? NONE : outputs.get(i);
    }

    int at(int what) {
        if (what < 0 || what > 3) {
            return -1;
        }
        if (what == 3) {
            return outputs.size();
        }
        if (frames.isEmpty()) {
            return 0;
        }
        if (what == 1) {
            return frames.peek().list.get(frames.peek().next).number;
        }
        int procedures = 0;
        char innermost = 0;
        for (Frame frame : frames) {
            procedures += frame.procedure != 0 ? 1 : 0;
            innermost = innermost == 0 ? frame.procedure : innermost;
        }
        return what == 0 ? innermost : procedures;
    }

    long operate(int operation, int one, int other) {
        return operation < 0 || operation > 5 ? NONE : apply("+-&|^<".charAt(operation), one, other);
    }

    int state(int module, int what) {
        if (!isModule(module) || what < 0 || what > 2) {
            return -1;
        }
        if (what == 0) {
            return texts[module].length();
        }
        return (what == 1 ? compiled[module] : linked) ? 1 : 0;
    }
}
