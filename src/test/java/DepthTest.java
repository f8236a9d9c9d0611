/** Promises 3 and 4: what is deeper than 100 is refused at its first token. */
public final class DepthTest {
    private DepthTest() {
    }

    public static void main(String[] args) {
        statements();
        expressionsOfStatements();
        brackets();
        operators();
        whatIsNotDeeper();
        functions();
        deepAndWide();
        everyStatementAtTheEdge();
        everyPartOfAStatement();
        everyOperatorAtTheEdge();
        everyBracketAtTheEdge();
        everyFunctionAtTheEdge();
        leftSidesAtTheEdge();
        Check.end();
    }

    private static String times(int n, String part) {
        StringBuilder out = new StringBuilder();
        for (int i = 0; i < n; i++) {
            out.append(part);
        }
        return out.toString();
    }

    /** What stands in the blocks has the depth. */
    private static String at(int depth, String text) {
        return times(depth - 1, "{") + text + times(depth - 1, "}");
    }

    /** The text has the depth 100 in all, its refused part, behind the mark, 101. */
    private static void deepest(int parts, String marked) {
        String plain = marked.substring(0, marked.indexOf('`')) + marked.substring(marked.indexOf('`') + 1);
        Script.accepts(at(101 - parts, plain));
        Script.refuses(at(102 - parts, marked));
    }

    private static void statements() {
        Script.accepts(at(100, ";"));
        Script.refuses(times(100, "{") + "`;");
        Script.refuses(times(100, "{") + "`{");
        Script.refuses(times(100, "{") + "`if");
        Script.accepts(times(100, "{") + times(100, "}"));
        deepest(2, "if (`a) ;");
        deepest(3, "if (a) { `; }");
        deepest(3, "if (a) ; else { `; }");
        deepest(3, "while (a) { `; }");
        deepest(3, "with (a) { `; }");
        deepest(3, "for (a in b) { `; }");
        deepest(2, "do `; while (a)");
        deepest(2, "for (;;) `;");
        deepest(3, "for (;;) for (;;) `;");
        deepest(2, "try `{} finally {}");
        deepest(3, "try { `; } finally {}");
        deepest(3, "try {} catch (a) { `; }");
        deepest(3, "try {} finally { `; }");
        deepest(2, "`a: ;");
        deepest(3, "a: `b: ;");
        Script.accepts(at(100, "debugger"));
        Script.accepts(at(100, "var a, b"));
        Script.accepts("a: " + at(98, "break a"));
        Script.accepts("a: while (b) " + at(98, "continue a"));
        Script.accepts("a: " + at(99, "break a"));
        Script.accepts("function f() " + at(100, "return"));
        Script.refuses("function f() " + times(100, "{") + "`return");
    }

    private static void expressionsOfStatements() {
        deepest(2, "`a");
        deepest(2, "var a = `b");
        deepest(2, "var a, c = `b");
        deepest(2, "if (`a) ;");
        deepest(2, "while (`a) ;");
        deepest(2, "with (`a) ;");
        deepest(2, "throw `a");
        deepest(2, "switch (`a) {}");
        deepest(3, "switch (a) { case b: { `; } }");
        Script.refuses(at(100, "switch (`a) { default: ; }"));
        deepest(3, "switch (a) { case (`b): ; }");
        deepest(2, "for (`a;;) ;");
        deepest(2, "for (var a = `b;;) ;");
        deepest(2, "for (var a in `b) ;");
        deepest(2, "for (`a in b) ;");
        deepest(3, "for (a;;) for (`a;;) ;");
        deepest(3, "do ; while ((`a))");
        deepest(2, "for (;`a;) ;");
        deepest(2, "for (;;`a) ;");
        deepest(3, "for (;(`a);) ;");
        Script.accepts("function f() {" + at(98, "return a") + "}");
        Script.refuses("function f() {" + at(99, "return `a") + "}");
        Script.refuses(at(100, "for (;`a;) ;"));
        Script.refuses(at(100, "for (;;`a) ;"));
        Script.refuses(at(100, "do `; while (a)"));
        Script.refuses(at(100, "if (`a) b"));
        Script.refuses(at(100, "for (;;) `;"));
        Script.refuses("function f() " + at(100, "return `a"));
    }

    private static void brackets() {
        deepest(3, "(`a)");
        deepest(5, "(((`a)))");
        deepest(3, "[`a]");
        deepest(4, "[[`a]]");
        deepest(3, "a(`b)");
        deepest(3, "a[`b]");
        deepest(4, "({a: `b})");
        deepest(4, "[a, b, (`c)]");
        Script.accepts(at(99, "[]"));
        Script.accepts(at(99, "[ , , ]"));
        Script.accepts(at(99, "a()"));
        Script.accepts("(".repeat(98) + "a" + ")".repeat(98));
        Script.refuses("(".repeat(99) + "`a" + ")".repeat(99));
        Script.refuses("(".repeat(99) + "`(a" + ")".repeat(100));
    }

    private static void operators() {
        deepest(3, "- `a");
        deepest(4, "- - `a");
        deepest(3, "typeof `a");
        deepest(3, "++ `a");
        deepest(3, "new `a");
        deepest(4, "new new `a");
        deepest(3, "new `a()");
        Script.refuses(at(98, "new (`a)"));
        Script.accepts(at(97, "new (a)"));
        Script.accepts(at(98, "new a(b)"));
        deepest(4, "new a((`b))");
        deepest(3, "a + `b");
        deepest(4, "a + b * `c");
        deepest(3, "a = `b");
        deepest(4, "a = b = `c");
        deepest(3, "a, `b");
        deepest(3, "a ? `b : c");
        Script.refuses(at(99, "a ? `b : c"));
        deepest(4, "a ? b : c ? `d : e");
        deepest(4, "a ? b ? `c : d : e");
        deepest(4, "a = b + `c");
        deepest(3, "a in `b");
        Script.accepts(times(98, "- ") + "a");
        Script.refuses(times(99, "- ") + "`a");
        Script.refuses(times(99, "- ") + "`- a");
        Script.accepts(times(98, "a = ") + "a");
        Script.refuses(times(99, "a = ") + "`a");
        Script.refuses(times(99, "new ") + "`a");
        Script.refuses(times(98, "a ? b : ") + "a ? `b : c");
        Script.accepts(times(98, "a ? b : ") + "a");
    }

    private static void whatIsNotDeeper() {
        Script.accepts(at(99, "a"));
        Script.accepts(at(99, "a.b.c.d ++"));
        Script.accepts(at(98, "a + b + c - d"));
        Script.accepts(at(98, "a * b + c < d && e || f"));
        Script.accepts(at(98, "a, b, c, d"));
        Script.accepts(at(98, "a(b)(c)[d][e].f(g)"));
        Script.accepts(times(400, "a + ") + "a");
        Script.accepts(times(400, "a, ") + "a");
        Script.accepts("a" + times(400, ".b"));
        Script.accepts("a" + times(250, "[b]"));
        Script.accepts("a" + times(300, "()"));
        Script.accepts("[" + times(400, "a, ") + "]");
        Script.accepts(times(400, ";"));
        Script.accepts("var a" + times(200, ", a = b"));
    }

    private static void functions() {
        Script.accepts(times(99, "function f() {") + ";" + times(99, "}"));
        Script.refuses(times(100, "function f() {") + "`;");
        Script.refuses(times(100, "function f() {") + "`function f() {}");
        Script.accepts(times(100, "function f() {") + times(100, "}"));
        Script.accepts("function f() {" + at(99, ";") + "}");
        Script.refuses("function f() {" + times(99, "{") + "`;");
        deepest(3, "a, `function () {}");
        deepest(4, "a = function () { `; }");
        deepest(4, "(function () { `; })");
        deepest(4, "[function () { `; }]");
        deepest(4, "({get a() { `; }})");
        deepest(4, "({set a(b) { `; }})");
        deepest(5, "({get a() { `b }})");
        deepest(5, "({a: function () { `; }})");
        deepest(5, "({get a() { function f() { `; } }})");
        deepest(3, "(`function () {})");
        deepest(4, "(- `function () {})");
    }

    private static void deepAndWide() {
        // three levels a part: the statement, its expression, and what stands in the bracket
        Script.accepts(times(33, "({get a() { ") + times(33, "}})"));
        Script.refuses(times(33, "({get a() { ") + "`({}) " + times(33, "}})"));
        Script.accepts(times(33, "({get a() { ") + ";" + times(33, "}})"));
        Script.accepts(times(50, "for (var a = function () { ") + times(50, "};;) ;"));
        Script.refuses(times(50, "for (var a = function () { ") + "`;");
        Script.accepts(times(50, "var a = {get a() { ") + times(50, "}};"));
        Script.refuses(times(50, "var a = {get a() { ") + "`;");
    }

    /** Of the depth 100 a statement may be, of 101 none, whatever it begins with. */
    private static void everyStatementAtTheEdge() {
        String[] statements = {";", "{}", "var a", "var a, b", "debugger", "break", "continue", "break x", "continue x"};
        for (String statement : statements) {
            // the label and the loop are two levels more
            Script.accepts("x: while (y) " + at(98, statement));
            Script.refuses("x: while (y) " + times(98, "{") + "`" + statement);
        }
        Script.accepts("(function () {" + at(97, "return") + "})");
        Script.refuses("(function () {" + times(97, "{") + "`return");
        String[] begins = {
            ";", "{", "var", "if", "do", "while", "for", "continue", "break", "return", "with", "switch", "throw",
            "try", "debugger", "function", "a", "a:", "(", "[", "- a", "1", "\"a\"", "@", "this", "new", "typeof", "class", ")"
        };
        for (String begin : begins) {
            Script.refuses(times(100, "{") + "`" + begin);
        }
        Script.refuses(times(100, "{") + "`");
        Script.accepts(times(100, "{") + times(100, "}"));
    }

    private static void everyPartOfAStatement() {
        deepest(2, "{ `; }");
        deepest(3, "{ ; ; { `; } }");
        deepest(3, "{ { `; } }");
        deepest(3, "if (a) `b");
        deepest(3, "if (a) ; else `b");
        deepest(3, "if ((`a)) ;");
        deepest(3, "do { `; } while (a)");
        deepest(3, "while ((`a)) ;");
        deepest(3, "while (a) `b");
        deepest(3, "for ((`a);;) ;");
        deepest(3, "for (;;(`a)) ;");
        deepest(3, "for (var a = (`b);;) ;");
        deepest(3, "for (var a, c = (`b);;) ;");
        deepest(3, "for (var a = (`b) in c) ;");
        deepest(3, "for (var a in (`b)) ;");
        deepest(3, "for ((`a) in b) ;");
        deepest(3, "for (a[`b] in c) ;");
        deepest(3, "for (a in (`b)) ;");
        deepest(3, "for (a in b, `c) ;");
        deepest(2, "for (var a in `b) ;");
        deepest(3, "for (var a in b) `c");
        deepest(3, "with ((`a)) ;");
        deepest(3, "with (a) `b");
        deepest(3, "switch ((`a)) {}");
        deepest(3, "switch (a) { case b: `c }");
        deepest(3, "switch (a) { default: `c }");
        deepest(3, "switch (a) { case b: ; ; case (`c): }");
        deepest(3, "a: `b");
        deepest(3, "a: { `; }");
        deepest(4, "a: b: `c");
        deepest(3, "throw (`a)");
        deepest(3, "throw a, `b");
        deepest(3, "try { `; } catch (a) {}");
        deepest(4, "try {} catch (a) { ; { `; } }");
        deepest(3, "try {} catch (a) {} finally { `; }");
        deepest(3, "var a = (`b)");
        deepest(3, "var a = b, c = (`d)");
        deepest(3, "var a = b + `c");
        deepest(3, "(`a)");
        Script.accepts(at(98, "do ; while (a, b)"));
        Script.refuses(at(99, "do ; while (a, `b)"));
        Script.accepts("function f() {" + at(97, "return (a)") + "}");
        Script.refuses("function f() {" + at(98, "return (`a)") + "}");
    }

    private static void everyOperatorAtTheEdge() {
        for (String prefix : "void typeof ++ -- + - ~ ! delete".split(" ")) {
            deepest(3, prefix + " `a");
            deepest(3, prefix + " `a.b");
            deepest(4, prefix + " (`a)");
            deepest(4, prefix + " a[`b]");
        }
        for (String operator : "|| && | ^ & == != === !== < > <= >= instanceof in << >> >>> + - * / %".split(" ")) {
            deepest(3, "a " + operator + " `b");
            deepest(4, "a " + operator + " b " + operator + " (`c)");
            deepest(4, "a " + operator + " (`b)");
            deepest(4, "a " + operator + " b(`c)");
            deepest(4, "a " + operator + " - `b");
        }
        for (String sign : "= |= ^= &= <<= >>= >>>= += -= *= /= %=".split(" ")) {
            deepest(3, "a " + sign + " `b");
            deepest(4, "a " + sign + " b " + sign + " `c");
            deepest(4, "a " + sign + " (`b)");
        }
        deepest(4, "a, b, c, (`d)");
        deepest(4, "a, (`b)");
        deepest(4, "a, b = `c");
        deepest(3, "a ? `b : c");
        deepest(4, "a ? (`b) : c");
        deepest(4, "a ? b : (`c)");
        deepest(4, "a ? b : - `c");
        deepest(3, "new `a.b");
        deepest(4, "new a[`b]");
        deepest(3, "new `a(b)");
        deepest(4, "new (`a)(b)");
        deepest(4, "new new `a");
        deepest(5, "new new a[`b]");
        // + binds less than *: the right side of + holds that of *, but not the other way round
        deepest(4, "a + b * `c");
        deepest(4, "a * b + (`c)");
        deepest(5, "a || b && c == `d");
        deepest(4, "a == b && c || (`d)");
    }

    private static void everyBracketAtTheEdge() {
        deepest(4, "((`a))");
        deepest(4, "a[b][(`c)]");
        deepest(4, "a[b[`c]]");
        deepest(4, "a(b, (`c))");
        deepest(4, "a((`b), c)");
        deepest(3, "a()(`b)");
        deepest(4, "a(b(`c))");
        deepest(4, "new a((`b))");
        deepest(4, "new a(b, - `c)");
        deepest(4, "new a(b)((`c))");
        deepest(4, "[(`a), b]");
        deepest(4, "[a, b, (`c)]");
        deepest(3, "[, , `a]");
        deepest(5, "({a: (`b)})");
        deepest(5, "({a: b, c: (`d)})");
        deepest(4, "a = {b: `c}");
        deepest(5, "a = {b: {c: `d}}");
        // nothing stands in these
        Script.accepts(at(99, "[]"));
        Script.accepts(at(99, "[ , ]"));
        Script.accepts(at(99, "a()()"));
        Script.accepts(at(98, "new a()"));
        Script.accepts(at(98, "({})"));
        Script.accepts(at(98, "(function () {})"));
        Script.accepts(at(98, "({get a() {}, set a(b) {}})"));
    }

    private static void everyFunctionAtTheEdge() {
        // blocks have no declarations: the levels are functions, or brackets round an expression
        for (String statement : new String[] {"`;", "`a", "`return", "`{}", "`function g() {}"}) {
            String plain = statement.substring(1);
            Script.refuses(times(100, "function f() {") + statement);
            boolean fits = !plain.equals("a");
            if (fits) {
                Script.accepts(times(99, "function f() {") + plain + times(99, "}"));
            } else {
                Script.refuses(times(99, "function f() {") + statement);
                Script.accepts(times(98, "function f() {") + plain + times(98, "}"));
            }
        }
        deepest(4, "(function () { `; })");
        deepest(5, "(function () { `a })");
        deepest(4, "- function () { `; }");
        deepest(4, "new function () { `; }");
        deepest(4, "a + function () { `; }");
        deepest(4, "a(function () { `; })");
        deepest(4, "a[function () { `; }]");
        deepest(4, "a ? function () { `; } : b");
        deepest(3, "var a = function () { `; }");
        deepest(3, "throw function () { `; }");
        deepest(3, "if (function () { `; }) ;");
        deepest(3, "for (function () { `; };;) ;");
        deepest(3, "var a = {get b() { `; }}");
        deepest(3, "var a = {set b(c) { `; }}");
        deepest(4, "var a = {b: function () { `; }}");
        deepest(5, "(function () { function f() {} { `; } })");
        deepest(5, "(function () { function f() { `; } })");
        deepest(3, "var a = function f(b, c, d) { `; }");
    }

    /** What stands to the left of an operator or a bracket is not deeper than the whole. */
    private static void leftSidesAtTheEdge() {
        String[] whole = {
            "#.b", "#.b.c", "# ++", "#()", "#()()", "#().b()", "#[0]", "#(0)", "# + 0", "# * 0 + 0", "# = 0", "#.a += 0",
            "#, 0", "#, 0, 0", "# ? 0 : 0", "# in 0", "# instanceof 0 || 0"
        };
        for (String text : whole) {
            boolean more = text.contains("0");
            Script.accepts(at(more ? 98 : 99, text.replace("#", "a")));
            Script.refuses(at(100, text.replace("#", "`a")));
            if (more) {
                int zero = text.indexOf('0');
                Script.refuses(at(99, text.substring(0, zero).replace("#", "a") + "`" + text.substring(zero)));
            }
        }
    }
}
