/** Promise 5: node tells kind, children, value and place of a node. */
public final class NodeTest {
    private NodeTest() {
    }

    public static void main(String[] args) {
        answers();
        wrongQuestions();
        wrongNodes();
        placesOfStatements();
        placesOfExpressions();
        placesOfFunctionsAndProperties();
        placesOfWhatIsMissing();
        placesInBrackets();
        placesStartAnew();
        firstAndLastChildren();
        Check.end();
    }

    private static SyntaxTree read(String text) {
        SyntaxTree x = new SyntaxTree();
        new Script(text).tell(x);
        x.read();
        return x;
    }

    private static void answers() {
        SyntaxTree x = read("; a(b, c)");
        int[][] due = {{0, 2, 0, 0}, {4, 0, 0, 0}, {5, 1, 0, 1}, {38, 3, 0, 2}, {28, 0, 4, 1}, {28, 0, 5, 3}, {28, 0, 6, 5}};
        for (int k = 0; k < due.length; k++) {
            for (int what = 0; what <= 3; what++) {
                int node = k;
                int asked = what;
                Check.answers("node(" + k + ", " + what + ")", () -> x.node(node, asked), due[k][what]);
            }
        }
    }

    private static void wrongQuestions() {
        SyntaxTree x = read("a");
        int[] wrong = {Integer.MIN_VALUE, -1, 4, 5, Integer.MAX_VALUE};
        for (int what : wrong) {
            Check.refusesArgument("node(0, " + what + ")", () -> x.node(0, what));
        }
    }

    private static void wrongNodes() {
        SyntaxTree x = read("a");
        int[] wrong = {Integer.MIN_VALUE, -1, 3, 64, 1000, Integer.MAX_VALUE};
        for (int k : wrong) {
            Check.refusesIndex("node(" + k + ", 0)", () -> x.node(k, 0));
            Check.refusesIndex("node(" + k + ", 1)", () -> x.node(k, 1));
        }
        Check.answers("the last node", () -> x.node(2, 0), 28);
    }

    private static void at(String text, String due) {
        Check.same(text, Script.places(text), due);
    }

    private static void placesOfStatements() {
        at("; {} debugger", "0 0 1 3");
        at("var a, b = c", "0 0 1 3 5");
        at("if (a) b; else c", "0 0 2 4 4 7 7");
        at("do a; while (b)", "0 0 1 1 5");
        at("while (a) b", "0 0 2 4 4");
        at("for (a in b) c", "0 0 2 4 6 6");
        at("for (var a = 1 in b) c", "0 0 2 3 5 7 9 9");
        at("a: b: for (;;) break a", "0 0 2 4 6 7 8 9");
        at("with (a) b", "0 0 2 4 4");
        at("switch (a) { case b: c; default: d }", "0 0 2 5 6 8 8 10 12 12");
        at("throw a", "0 0 1");
        at("function f() { return a; return }", "0 0 4 5 6 8");
        at("while (a) { continue; break }", "0 0 2 4 5 7");
        at("try { a } catch (b) { c } finally { d }", "0 0 1 2 2 4 8 9 9 11 12 13 13");
        at("(a)", "0 0 1");
        at("((a)).b", "0 0 5 2");
        at("; (a, b)", "0 0 1 3 2 4");
    }

    private static void placesOfExpressions() {
        at("a.b[c](d)", "0 0 6 3 1 0 4 7");
        at("a ? b : c", "0 0 1 0 2 4");
        at("a + b * c", "0 0 1 0 3 2 4");
        at("a = b += c", "0 0 1 0 3 2 4");
        at("a, b, c", "0 0 3 1 0 2 4");
        at("- ! a", "0 0 0 1 2");
        at("a ++", "0 0 1 0");
        at("; typeof ++ a", "0 0 1 1 2 3");
        at("; new a(b)", "0 0 1 1 2 4");
        at("; new new a.b", "0 0 1 1 2 4 3");
        at("; [a, b]", "0 0 1 1 2 4");
        at("(a) + (b)", "0 0 3 1 5");
        at("; (this)[1]", "0 0 1 4 2 5");
        at("a instanceof b in c", "0 0 3 1 0 2 4");
    }

    private static void placesOfFunctionsAndProperties() {
        at("; function a(b, c) { d }", "0 0 1 4 6 8 9 9");
        at("(function () {})", "0 0 1 4");
        at("(function a(b) {})", "0 0 1 4 6");
        at("({a: b, \"c\": d, 1: e})", "0 0 1 2 4 6 8 10 12");
        at("({get a() { b }, set a(c) {}})", "0 0 1 2 4 6 7 7 10 12 13 15");
    }

    private static void placesOfWhatIsMissing() {
        at("for (;;) ;", "0 0 2 3 4 5");
        at("for (a; b; ) ;", "0 0 2 4 6 7");
        at("for (var a; ; b) ;", "0 0 2 3 5 6 8");
        at("; [, a, , b, ]", "0 0 1 1 2 3 5 6");
    }

    private static void placesInBrackets() {
        at("; ((a + b)) * (c)", "0 0 1 8 4 3 5 10");
        at("; ([a])[(b)]", "0 0 1 6 2 3 8");
        at("; (a)((b), c)", "0 0 1 4 2 6 9");
        at("; (new a).b", "0 0 1 5 2 3");
        at("; (a) ? (b) : (c)", "0 0 1 4 2 6 10");
        at("; (a) = (b)", "0 0 1 4 2 6");
        at("; (a) ++", "0 0 1 4 2");
        at("; - (a)", "0 0 1 1 3");
        at("if ((a)) (b)", "0 0 3 6 7");
        at("var a = (b)", "0 0 1 4");
        at("for ((a) in (b)) (c)", "0 0 3 7 10 11");
        at("switch ((a)) { case (b): (c) }", "0 0 3 7 9 12 13");
        at("; [ , (a), ]", "0 0 1 1 2 4");
        at("a = {get b() {}, set b(c) {}, \"d\": e}", "0 0 1 0 2 3 5 7 10 12 13 15 18 20");
    }

    private static void placesStartAnew() {
        // a semicolon that is put in is no token
        at("a\nb", "0 0 0 1 1");
        at("[a, , , b]", "0 0 0 1 3 4 5");
        at("for (; a; b) ;", "0 0 2 3 5 7");
        at("for (; ; a) ;", "0 0 2 3 4 6");
        SyntaxTree x = read("a; b; c");
        Check.answers("place of c", () -> x.node(6, 3), 4);
        new Script("; d").tell(x);
        Check.answers("read() of the next", x::read, 4);
        Check.answers("place of d", () -> x.node(3, 3), 1);
        new Script("( ( d").tell(x);
        Check.refusesArgument("read() of what breaks off", x::read);
        new Script("e").tell(x);
        Check.answers("read() behind it", x::read, 3);
        Check.answers("place of e", () -> x.node(2, 3), 0);
    }

    /** How many children there are, from none or the fewest on. */
    private static void firstAndLastChildren() {
        children("", 0, 0);
        children(";", 0, 1);
        children("; ; ;", 0, 3);
        children("{}", 1, 0);
        children("{ ; }", 1, 1);
        children("var a", 1, 1);
        children("var a, b", 1, 2);
        children("var a", 2, 0);
        children("var a = b", 2, 1);
        children("if (a) ;", 1, 2);
        children("if (a) ; else ;", 1, 3);
        children("for (;;) ;", 1, 4);
        children("for (a; b; c) ;", 1, 4);
        children("for (a in b) ;", 1, 3);
        children("switch (a) {}", 1, 1);
        children("switch (a) { default: }", 1, 2);
        children("switch (a) { default: }", 3, 0);
        children("switch (a) { default: ; ; }", 3, 2);
        children("switch (a) { case b: }", 3, 1);
        children("switch (a) { case b: ; }", 3, 2);
        children("try {} finally {}", 1, 2);
        children("try {} catch (a) {} finally {}", 1, 3);
        children("function f() {}", 1, 1);
        children("function f(a) {}", 1, 2);
        children("function f() {}", 2, 0);
        children("function f() { return }", 3, 0);
        children("function f() { return a }", 3, 1);
        children("[]", 2, 0);
        children("[ , ]", 2, 1);
        children("[a]", 2, 1);
        children("[a, ]", 2, 1);
        children("[a, , ]", 2, 2);
        children("a()", 2, 1);
        children("a(b)", 2, 2);
        children("new a", 2, 1);
        children("new a()", 2, 1);
        children("new a(b)", 2, 2);
        children("({})", 2, 0);
        children("({a: b})", 2, 1);
        children("({a: b, })", 2, 1);
        children("({get a() {}})", 3, 1);
        children("a, b, c", 2, 2);
    }

    private static void children(String text, int k, int due) {
        SyntaxTree x = read(text);
        String node = text + ", node " + k + ": ";
        Check.answers(node + "children", () -> x.node(k, 1), due);
        Check.refusesIndex(node + "child behind the last", () -> x.child(k, due));
        Check.refusesIndex(node + "child -1", () -> x.child(k, -1));
        if (due > 0) {
            Check.answers(node + "first child", () -> x.child(k, 0), k + 1);
            Check.same(node + "last child", x.child(k, due - 1) > k, true);
        }
    }
}
