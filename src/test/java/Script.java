import java.util.ArrayList;
import java.util.Arrays;
import java.util.HashMap;
import java.util.List;
import java.util.Map;

/**
 * A script's text as tokens, and a tree as text. The names a .. z have the numbers 4 .. 29; any other
 * unit gets the next number from 100 on. \word is a word with an escape in it, @ a PATTERN, a line break
 * ends a line.
 */
final class Script {
    private static final List<String> WORDS = Arrays.asList((
        "break case catch continue debugger default delete do else finally for function if in instanceof "
        + "new return switch this throw try typeof var void while with null true false class const enum "
        + "export extends import super implements interface let package private protected public static "
        + "yield").split(" "));
    private static final List<String> PLAIN_NAMES = Arrays.asList("eval", "arguments", "get", "set");
    private static final Map<String, Integer> SIGNS = signs();
    private static final Map<Integer, String> KINDS = kinds();

    final List<int[]> tokens = new ArrayList<>();
    private final Map<String, Integer> names = new HashMap<>();
    private final String text;
    private int at = 0;

    Script(String text) {
        this.text = text;
        scan();
    }

    /** The tokens kind, word, name and line (1 when a line ends before it), as they are. */
    Script(int[]... tokens) {
        this.text = "";
        this.tokens.addAll(Arrays.asList(tokens));
    }

    private static Map<String, Integer> signs() {
        String[] operators = "|| && | ^ & == != === !== < > <= >= instanceof in << >> >>> + - * / %".split(" ");
        String[] others = "( ) [ ] { } . ; , ? : ! ~ ++ --".split(" ");
        Map<String, Integer> signs = new HashMap<>();
        for (int i = 1; i <= 23; i++) {
            boolean word = i == 14 || i == 15;
            if (!word) {
                signs.put(operators[i - 1], i);
            }
            if (!word && (i >= 3 && i <= 5 || i >= 16)) {
                signs.put(operators[i - 1] + "=", 30 + i);
            }
        }
        signs.put("=", 30);
        for (int i = 0; i < others.length; i++) {
            signs.put(others[i], 60 + i);
        }
        return signs;
    }

    private static Map<Integer, String> kinds() {
        String[] kinds = (
            "PROGRAM BLOCK VAR DECLARATION EMPTY EXPRESSION IF DO WHILE FOR FORIN CONTINUE BREAK RETURN WITH "
            + "SWITCH CASE DEFAULT LABELLED THROW TRY CATCH FINALLY DEBUGGER FUNCTION PARAMETER BODY THIS NAME "
            + "NUMBER TEXT PATTERN TRUE FALSE NULL ARRAY MEMBER INDEX CALL NEW CONDITIONAL BINARY ASSIGN PREFIX "
            + "POSTFIX COMMA OBJECT DATA GETTER SETTER FUNCEXPR").split(" ");
        Map<Integer, String> map = new HashMap<>();
        for (int i = 0; i < kinds.length; i++) {
            map.put(i, kinds[i]);
        }
        map.put(59, "NONE");
        return map;
    }

    private void scan() {
        boolean line = false;
        while (at < text.length()) {
            char c = text.charAt(at);
            if (Character.isWhitespace(c)) {
                line = line || c == '\n';
                at++;
            } else {
                scanToken(c, line ? 1 : 0);
                line = false;
            }
        }
    }

    private void scanToken(char c, int line) {
        if (c == '@') {
            at++;
            tokens.add(new int[] {5, 0, 0, line});
        } else if (c == '"') {
            int end = text.indexOf('"', at + 1);
            String unit = text.substring(at + 1, end);
            at = end + 1;
            tokens.add(new int[] {3, unit.equals("use strict") ? 1 : 0, number(unit), line});
        } else if (c == '\\') {
            at++;
            String unit = unit();
            tokens.add(new int[] {1, 100 + WORDS.indexOf(unit), number(unit), line});
        } else if (Character.isDigit(c)) {
            tokens.add(new int[] {2, 0, number(unit()), line});
        } else if (Character.isLetter(c)) {
            String unit = unit();
            tokens.add(new int[] {1, WORDS.indexOf(unit), number(unit), line});
        } else {
            scanSign(line);
        }
    }

    private String unit() {
        int start = at;
        while (at < text.length() && Character.isLetterOrDigit(text.charAt(at))) {
            at++;
        }
        return text.substring(start, at);
    }

    private void scanSign(int line) {
        for (int length = Math.min(4, text.length() - at); length > 0; length--) {
            Integer sign = SIGNS.get(text.substring(at, at + length));
            if (sign != null) {
                at += length;
                tokens.add(new int[] {4, sign, 0, line});
                return;
            }
        }
        throw new AssertionError("no token at " + at + " of " + text);
    }

    private int number(String unit) {
        if (PLAIN_NAMES.contains(unit)) {
            return PLAIN_NAMES.indexOf(unit);
        }
        if (unit.length() == 1 && unit.charAt(0) >= 'a' && unit.charAt(0) <= 'z') {
            return 4 + unit.charAt(0) - 'a';
        }
        return names.computeIfAbsent(unit, fresh -> 100 + names.size());
    }

    void tell(SyntaxTree x) {
        for (int[] t : tokens) {
            x.token(t[0], t[1], t[2], t[3] == 1);
        }
    }

    private static SyntaxTree told(String text) {
        SyntaxTree x = new SyntaxTree();
        new Script(text).tell(x);
        return x;
    }

    static String tree(String text) {
        return new Script(text).tree();
    }

    /** KIND:value(children), the value left out when it is 0; or where the script is refused. */
    String tree() {
        SyntaxTree x = new SyntaxTree();
        tell(x);
        StringBuilder out = new StringBuilder();
        int nodes;
        try {
            nodes = x.read();
        } catch (IllegalArgumentException refused) {
            out.append("refused at ").append(x.place());
            behindRefusal(x, x.place(), out);
            return out.toString();
        }
        if (write(x, 0, out) != nodes) {
            out.append(" not in preorder");
        }
        edges(x, nodes, out);
        return out.toString();
    }

    private static void expect(String call, String got, String due, StringBuilder out) {
        if (!got.equals(due)) {
            out.append(", but ").append(call).append(" answered ").append(got).append(", not ").append(due);
        }
    }

    /** Promises 3 to 6 of the calls behind a refused read: no node is there, and the tokens are used up. */
    private static void behindRefusal(SyntaxTree x, int place, StringBuilder out) {
        for (int what = 0; what <= 3; what++) {
            int asked = what;
            expect("node(0, " + what + ")", Check.answer(() -> x.node(0, asked)), "IndexOutOfBoundsException", out);
        }
        expect("node(0, 4)", Check.answer(() -> x.node(0, 4)), "IllegalArgumentException", out);
        expect("child(0, 0)", Check.answer(() -> x.child(0, 0)), "IndexOutOfBoundsException", out);
        expect("place() again", Check.answer(x::place), String.valueOf(place), out);
        usedUp(x, out);
    }

    /** Promises 4 to 6 just outside of every node and every child of a tree. */
    private static void edges(SyntaxTree x, int nodes, StringBuilder out) {
        expect("place()", Check.answer(x::place), "-1", out);
        for (int what = 0; what <= 3; what++) {
            int asked = what;
            expect("node behind the last", Check.answer(() -> x.node(nodes, asked)), "IndexOutOfBoundsException", out);
            expect("node -1", Check.answer(() -> x.node(-1, asked)), "IndexOutOfBoundsException", out);
        }
        expect("child of the node behind the last", Check.answer(() -> x.child(nodes, 0)), "IndexOutOfBoundsException", out);
        for (int k = 0; k < nodes; k++) {
            int node = k;
            int children = x.node(k, 1);
            expect("node(" + k + ", -1)", Check.answer(() -> x.node(node, -1)), "IllegalArgumentException", out);
            expect("node(" + k + ", 4)", Check.answer(() -> x.node(node, 4)), "IllegalArgumentException", out);
            expect("child(" + k + ", -1)", Check.answer(() -> x.child(node, -1)), "IndexOutOfBoundsException", out);
            expect("child behind the last of " + k, Check.answer(() -> x.child(node, children)),
                "IndexOutOfBoundsException", out);
        }
        usedUp(x, out);
    }

    private static void usedUp(SyntaxTree x, StringBuilder out) {
        expect("read() without tokens", Check.answer(x::read), "1", out);
        expect("place() behind it", Check.answer(x::place), "-1", out);
        expect("node(0, 0) behind it", Check.answer(() -> x.node(0, 0)), "0", out);
        expect("node(1, 0) behind it", Check.answer(() -> x.node(1, 0)), "IndexOutOfBoundsException", out);
        expect("token() behind it", Check.answer(() -> x.token(5, 0, 0, false)), "1", out);
    }

    private static int write(SyntaxTree x, int k, StringBuilder out) {
        out.append(KINDS.get(x.node(k, 0)));
        if (x.node(k, 2) != 0) {
            out.append(':').append(x.node(k, 2));
        }
        int next = k + 1;
        int children = x.node(k, 1);
        for (int i = 0; i < children; i++) {
            out.append(i == 0 ? "(" : " ");
            if (x.child(k, i) != next) {
                out.append("<child ").append(x.child(k, i)).append(" not ").append(next).append('>');
            }
            next = write(x, next, out);
        }
        if (children > 0) {
            out.append(')');
        }
        return next;
    }

    /** The places of all nodes in preorder. */
    static String places(String text) {
        SyntaxTree x = told(text);
        try {
            int nodes = x.read();
            StringBuilder out = new StringBuilder();
            for (int k = 0; k < nodes; k++) {
                out.append(k == 0 ? "" : " ").append(x.node(k, 3));
            }
            return out.toString();
        } catch (IllegalArgumentException refused) {
            return "refused at " + x.place();
        }
    }

    /** Checks that the script's tree is the one that is due, written without the PROGRAM round it. */
    static void parses(String text, String due) {
        Check.same(text, tree(text), due.isEmpty() ? "PROGRAM" : "PROGRAM(" + due + ")");
    }

    static void parsesStrict(String text, String due) {
        Check.same(text, tree(text), "PROGRAM:1(" + due + ")");
    }

    /** Checks the tree of a script that is one expression. */
    static void means(String text, String due) {
        parses(text, "EXPRESSION(" + due + ")");
    }

    static void accepts(String text) {
        String got = tree(text);
        boolean tree = got.startsWith("PROGRAM") && !got.contains("but");
        Check.same(text, tree ? "a tree" : got, "a tree");
    }

    /** Checks that the script is refused at the token that stands behind the mark ` in the text. */
    static void refuses(String marked) {
        int mark = marked.indexOf('`');
        int due = new Script(marked.substring(0, mark)).tokens.size();
        Check.same(marked, tree(marked.substring(0, mark) + marked.substring(mark + 1)), "refused at " + due);
    }
}
