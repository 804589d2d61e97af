import java.util.ArrayList;
import java.util.List;
import java.util.Set;
import java.util.TreeSet;

/**
 * Terms: the rules of a text as the document writes them, derived from the left in every way. What
 * is still to come is a row of symbols, and a sign can stand if some row begins with it.
 *
 * Capital letters but L are rules; L, v, d and o are a letter A .. Z, a variable, a digit and an
 * operator; a dot is where the operand of '~' or '-' ends.
 */
public final class GrammarTest {
    private static final String[] RULES = {
        "M:", "M:PM", "P:L{S}", "S:", "S:TS",
        "T:v=E;", "T:!E;", "T:L;", "T:?E{S}", "T:?E{S}:{S}", "T:@E{S}",
        "E:OR", "R:", "R:oOR",
        "O:N", "O:v", "O:(E)", "O:~O.", "O:-O.",
        "N:d", "N:dd", "N:ddd", "N:dddd",
    };
    /** One sign of each kind: the texts that are tried are made of these. */
    private static final String KINDS = "Aa1{}();:=!?@+-~";

    private final Check check = new Check("grammar");
    private GateStack x = new GateStack();
    private int calls;
    private int texts;

    public static void main(String[] args) {
        GrammarTest test = new GrammarTest();
        test.check.says("A sign CAN STAND if some text by these rules begins with the signs up to it");
        test.behind("", 5);
        test.behind("M{", 5);
        test.behind("M{a=1234", 4);
        test.behind("M{?a{", 5);
        test.behind("M{?a{}", 5);
        test.behind("M{@1{}", 4);
        test.behind("M{?1{?1{?1{", 6);
        test.behind("M{?1{}:{@1{?1{}:{@1{", 6);
        test.behind("M{!((((", 5);
        test.behind("M{!~-~-", 5);
        test.behind("M{@a{!-(~(1)-", 5);
        test.check.due("many texts are tried", test.texts > 500000 ? 1 : 0, 1);
        test.check.end();
    }

    private void behind(String text, int more) {
        Set<String> rows = spread("M");
        for (char sign : text.toCharArray()) {
            rows = rowsBehind(rows, sign);
        }
        check.due("rows behind " + text, rows.isEmpty() ? 0 : 1, 1);
        tryAll(text, rows, more);
    }

    private void tryAll(String text, Set<String> rows, int more) {
        for (char sign = 33; sign <= 126; sign++) {
            Set<String> next = rowsBehind(rows, sign);
            boolean whole = next.contains("");
            dueFault(text + sign, whole, next.isEmpty() ? text.length() : text.length() + 1);
            if (!next.isEmpty() && more > 0 && KINDS.indexOf(sign) >= 0) {
                tryAll(text + sign, next, more - 1);
            }
        }
    }

    private void dueFault(String text, boolean whole, int fault) {
        calls += text.length() + 3;
        if (calls > 512) {
            x = new GateStack();
            calls = text.length() + 3;
        }
        texts++;
        x.clear(1);
        Check.put(x, 1, text);
        check.due("fault of " + text, x.fault(1), whole ? -2 : fault);
        check.due("BAD is " + text, x.compile(1) == GateStack.BAD ? 1 : 0, whole ? 0 : 1);
    }

    private static Set<String> rowsBehind(Set<String> rows, char sign) {
        Set<String> found = new TreeSet<>();
        for (String row : rows) {
            if (!row.isEmpty() && isOf(row.charAt(0), sign) && !isSeventh(row)) {
                found.addAll(spread(row.substring(1)));
            }
        }
        return found;
    }

    private static boolean isOf(char symbol, char sign) {
        switch (symbol) {
            case 'L': return sign >= 'A' && sign <= 'Z';
            case 'v': return sign >= 'a' && sign <= 'h';
            case 'd': return sign >= '0' && sign <= '9';
            case 'o': return "+-&|^<=".indexOf(sign) >= 0;
            default: return symbol == sign;
        }
    }

    /** What is open has its end in the row, and its beginning no more. */
    private static boolean isSeventh(String row) {
        int open = 0;
        for (char symbol : row.substring(1).toCharArray()) {
            open += ")}.".indexOf(symbol) >= 0 ? 1 : "({~-".indexOf(symbol) >= 0 ? -1 : 0;
        }
        return "({~-".indexOf(row.charAt(0)) >= 0 && open > 6;
    }

    /** The rows that begin with a sign, or are empty, and that the rules make out of this one. */
    private static Set<String> spread(String row) {
        Set<String> found = new TreeSet<>();
        List<String> left = new ArrayList<>(List.of(row));
        while (!left.isEmpty()) {
            String one = left.remove(left.size() - 1);
            if (one.startsWith(".")) {
                left.add(one.substring(1));
            } else if (one.isEmpty() || "MPSTERON".indexOf(one.charAt(0)) < 0) {
                found.add(one);
            } else {
                addDerived(left, one);
            }
        }
        return found;
    }

    private static void addDerived(List<String> left, String row) {
        for (String rule : RULES) {
            if (rule.charAt(0) == row.charAt(0)) {
                left.add(rule.substring(2) + row.substring(1));
            }
        }
    }
}
