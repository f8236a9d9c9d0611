/** Promise 5: node tells kind, children, value and place of a node. */
public final class NodeTest {
    private NodeTest() {
    }

    public static void main(String[] args) {
        answers();
        wrongQuestions();
        wrongNodes();
        placesOfStatements();
        placesOfExpressions();
        placesOfFunctionsAndProperties();
        placesOfWhatIsMissing();
        Check.end();
    }

    private static SyntaxTree read(String text) {
        SyntaxTree x = new SyntaxTree();
        new Script(text).tell(x);
        x.read();
        return x;
    }

    private static void answers() {
        SyntaxTree x = read("; a(b, c)");
        int[][] due = {{0, 2, 0, 0}, {4, 0, 0, 0}, {5, 1, 0, 1}, {38, 3, 0, 2}, {28, 0, 4, 1}, {28, 0, 5, 3}, {28, 0, 6, 5}};
        for (int k = 0; k < due.length; k++) {
            for (int what = 0; what <= 3; what++) {
                int node = k;
                int asked = what;
                Check.answers("node(" + k + ", " + what + ")", () -> x.node(node, asked), due[k][what]);
            }
        }
    }

    private static void wrongQuestions() {
        SyntaxTree x = read("a");
        int[] wrong = {Integer.MIN_VALUE, -1, 4, 5, Integer.MAX_VALUE};
        for (int what : wrong) {
            Check.refusesArgument("node(0, " + what + ")", () -> x.node(0, what));
        }
    }

    private static void wrongNodes() {
        SyntaxTree x = read("a");
        int[] wrong = {Integer.MIN_VALUE, -1, 3, 64, 1000, Integer.MAX_VALUE};
        for (int k : wrong) {
            Check.refusesIndex("node(" + k + ", 0)", () -> x.node(k, 0));
            Check.refusesIndex("node(" + k + ", 1)", () -> x.node(k, 1));
        }
        Check.answers("the last node", () -> x.node(2, 0), 28);
    }

    private static void at(String text, String due) {
        Check.same(text, Script.places(text), due);
    }

    private static void placesOfStatements() {
        at("; {} debugger", "0 0 1 3");
        at("var a, b = c", "0 0 1 3 5");
        at("if (a) b; else c", "0 0 2 4 4 7 7");
        at("do a; while (b)", "0 0 1 1 5");
        at("while (a) b", "0 0 2 4 4");
        at("for (a in b) c", "0 0 2 4 6 6");
        at("for (var a = 1 in b) c", "0 0 2 3 5 7 9 9");
        at("a: b: for (;;) break a", "0 0 2 4 6 7 8 9");
        at("with (a) b", "0 0 2 4 4");
        at("switch (a) { case b: c; default: d }", "0 0 2 5 6 8 8 10 12 12");
        at("throw a", "0 0 1");
        at("function f() { return a; return }", "0 0 4 5 6 8");
        at("while (a) { continue; break }", "0 0 2 4 5 7");
        at("try { a } catch (b) { c } finally { d }", "0 0 1 2 2 4 8 9 9 11 12 13 13");
        at("(a)", "0 0 1");
        at("((a)).b", "0 0 5 2");
        at("; (a, b)", "0 0 1 3 2 4");
    }

    private static void placesOfExpressions() {
        at("a.b[c](d)", "0 0 6 3 1 0 4 7");
        at("a ? b : c", "0 0 1 0 2 4");
        at("a + b * c", "0 0 1 0 3 2 4");
        at("a = b += c", "0 0 1 0 3 2 4");
        at("a, b, c", "0 0 3 1 0 2 4");
        at("- ! a", "0 0 0 1 2");
        at("a ++", "0 0 1 0");
        at("; typeof ++ a", "0 0 1 1 2 3");
        at("; new a(b)", "0 0 1 1 2 4");
        at("; new new a.b", "0 0 1 1 2 4 3");
        at("; [a, b]", "0 0 1 1 2 4");
        at("(a) + (b)", "0 0 3 1 5");
        at("; (this)[1]", "0 0 1 4 2 5");
        at("a instanceof b in c", "0 0 3 1 0 2 4");
    }

    private static void placesOfFunctionsAndProperties() {
        at("; function a(b, c) { d }", "0 0 1 4 6 8 9 9");
        at("(function () {})", "0 0 1 4");
        at("(function a(b) {})", "0 0 1 4 6");
        at("({a: b, \"c\": d, 1: e})", "0 0 1 2 4 6 8 10 12");
        at("({get a() { b }, set a(c) {}})", "0 0 1 2 4 6 7 7 10 12 13 15");
    }

    private static void placesOfWhatIsMissing() {
        at("for (;;) ;", "0 0 2 3 4 5");
        at("for (a; b; ) ;", "0 0 2 4 6 7");
        at("for (var a; ; b) ;", "0 0 2 3 5 6 8");
        at("; [, a, , b, ]", "0 0 1 1 2 3 5 6");
    }
}
