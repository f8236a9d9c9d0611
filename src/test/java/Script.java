import java.util.ArrayList;
import java.util.Arrays;
import java.util.HashMap;
import java.util.List;
import java.util.Map;

/**
 * A script's text as tokens, and a tree as text. The names a .. z have the numbers 4 .. 29; any other
 * unit gets the next number from 100 on. \word is a word with an escape in it, @ a PATTERN, a line break
 * ends a line.
 */
final class Script {
    private static final List<String> WORDS = Arrays.asList((
        "break case catch continue debugger default delete do else finally for function if in instanceof "
        + "new return switch this throw try typeof var void while with null true false class const enum "
        + "export extends import super implements interface let package private protected public static "
        + "yield").split(" "));
    private static final List<String> PLAIN_NAMES = Arrays.asList("eval", "arguments", "get", "set");
    private static final Map<String, Integer> SIGNS = signs();
    private static final Map<Integer, String> KINDS = kinds();

    final List<int[]> tokens = new ArrayList<>();
    private final Map<String, Integer> names = new HashMap<>();
    private final String text;
    private int at = 0;

    Script(String text) {
        this.text = text;
        scan();
    }

    private static Map<String, Integer> signs() {
        String[] operators = "|| && | ^ & == != === !== < > <= >= instanceof in << >> >>> + - * / %".split(" ");
        String[] others = "( ) [ ] { } . ; , ? : ! ~ ++ --".split(" ");
        Map<String, Integer> signs = new HashMap<>();
        for (int i = 1; i <= 23; i++) {
            boolean word = i == 14 || i == 15;
            if (!word) {
                signs.put(operators[i - 1], i);
            }
            if (!word && (i >= 3 && i <= 5 || i >= 16)) {
                signs.put(operators[i - 1] + "=", 30 + i);
            }
        }
        signs.put("=", 30);
        for (int i = 0; i < others.length; i++) {
            signs.put(others[i], 60 + i);
        }
        return signs;
    }

    private static Map<Integer, String> kinds() {
        String[] kinds = (
            "PROGRAM BLOCK VAR DECLARATION EMPTY EXPRESSION IF DO WHILE FOR FORIN CONTINUE BREAK RETURN WITH "
            + "SWITCH CASE DEFAULT LABELLED THROW TRY CATCH FINALLY DEBUGGER FUNCTION PARAMETER BODY THIS NAME "
            + "NUMBER TEXT PATTERN TRUE FALSE NULL ARRAY MEMBER INDEX CALL NEW CONDITIONAL BINARY ASSIGN PREFIX "
            + "POSTFIX COMMA OBJECT DATA GETTER SETTER FUNCEXPR").split(" ");
        Map<Integer, String> map = new HashMap<>();
        for (int i = 0; i < kinds.length; i++) {
            map.put(i, kinds[i]);
        }
        map.put(59, "NONE");
        return map;
    }

    private void scan() {
        boolean line = false;
        while (at < text.length()) {
            char c = text.charAt(at);
            if (Character.isWhitespace(c)) {
                line = line || c == '\n';
                at++;
            } else {
                scanToken(c, line ? 1 : 0);
                line = false;
            }
        }
    }

    private void scanToken(char c, int line) {
        if (c == '@') {
            at++;
            tokens.add(new int[] {5, 0, 0, line});
        } else if (c == '"') {
            int end = text.indexOf('"', at + 1);
            String unit = text.substring(at + 1, end);
            at = end + 1;
            tokens.add(new int[] {3, unit.equals("use strict") ? 1 : 0, number(unit), line});
        } else if (c == '\\') {
            at++;
            String unit = unit();
            tokens.add(new int[] {1, 100 + WORDS.indexOf(unit), number(unit), line});
        } else if (Character.isDigit(c)) {
            tokens.add(new int[] {2, 0, number(unit()), line});
        } else if (Character.isLetter(c)) {
            String unit = unit();
            tokens.add(new int[] {1, WORDS.indexOf(unit), number(unit), line});
        } else {
            scanSign(line);
        }
    }

    private String unit() {
        int start = at;
        while (at < text.length() && Character.isLetterOrDigit(text.charAt(at))) {
            at++;
        }
        return text.substring(start, at);
    }

    private void scanSign(int line) {
        for (int length = Math.min(4, text.length() - at); length > 0; length--) {
            Integer sign = SIGNS.get(text.substring(at, at + length));
            if (sign != null) {
                at += length;
                tokens.add(new int[] {4, sign, 0, line});
                return;
            }
        }
        throw new AssertionError("no token at " + at + " of " + text);
    }

    private int number(String unit) {
        if (PLAIN_NAMES.contains(unit)) {
            return PLAIN_NAMES.indexOf(unit);
        }
        if (unit.length() == 1 && unit.charAt(0) >= 'a' && unit.charAt(0) <= 'z') {
            return 4 + unit.charAt(0) - 'a';
        }
        return names.computeIfAbsent(unit, fresh -> 100 + names.size());
    }

    void tell(SyntaxTree x) {
        for (int[] t : tokens) {
            x.token(t[0], t[1], t[2], t[3] == 1);
        }
    }

    private static SyntaxTree told(String text) {
        SyntaxTree x = new SyntaxTree();
        new Script(text).tell(x);
        return x;
    }

    /** KIND:value(children), the value left out when it is 0; or where the script is refused. */
    static String tree(String text) {
        SyntaxTree x = told(text);
        try {
            int nodes = x.read();
            StringBuilder out = new StringBuilder();
            int end = write(x, 0, out);
            return end == nodes ? out.toString() : "not in preorder: " + out;
        } catch (IllegalArgumentException refused) {
            return "refused at " + x.place();
        }
    }

    private static int write(SyntaxTree x, int k, StringBuilder out) {
        out.append(KINDS.get(x.node(k, 0)));
        if (x.node(k, 2) != 0) {
            out.append(':').append(x.node(k, 2));
        }
        int next = k + 1;
        int children = x.node(k, 1);
        for (int i = 0; i < children; i++) {
            out.append(i == 0 ? "(" : " ");
            if (x.child(k, i) != next) {
                out.append("<child ").append(x.child(k, i)).append(" not ").append(next).append('>');
            }
            next = write(x, next, out);
        }
        if (children > 0) {
            out.append(')');
        }
        return next;
    }

    /** The places of all nodes in preorder. */
    static String places(String text) {
        SyntaxTree x = told(text);
        try {
            int nodes = x.read();
            StringBuilder out = new StringBuilder();
            for (int k = 0; k < nodes; k++) {
                out.append(k == 0 ? "" : " ").append(x.node(k, 3));
            }
            return out.toString();
        } catch (IllegalArgumentException refused) {
            return "refused at " + x.place();
        }
    }

    /** Checks that the script's tree is the one that is due, written without the PROGRAM round it. */
    static void parses(String text, String due) {
        Check.same(text, tree(text), due.isEmpty() ? "PROGRAM" : "PROGRAM(" + due + ")");
    }

    static void parsesStrict(String text, String due) {
        Check.same(text, tree(text), "PROGRAM:1(" + due + ")");
    }

    /** Checks the tree of a script that is one expression. */
    static void means(String text, String due) {
        parses(text, "EXPRESSION(" + due + ")");
    }

    static void accepts(String text) {
        String got = tree(text);
        Check.same(text, got.startsWith("PROGRAM") ? "a tree" : got, "a tree");
    }

    /** Checks that the script is refused at the token that stands behind the mark ` in the text. */
    static void refuses(String marked) {
        int mark = marked.indexOf('`');
        int due = new Script(marked.substring(0, mark)).tokens.size();
        Check.same(marked, tree(marked.substring(0, mark) + marked.substring(mark + 1)), "refused at " + due);
    }
}
