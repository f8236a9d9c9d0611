/** Promises 3 and 4: what the grammar allows and is refused all the same, and at which token. */
public final class RefusalTest {
    private RefusalTest() {
    }

    public static void main(String[] args) {
        leftSides();
        operands();
        targets();
        labels();
        properties();
        accessors();
        whichReasonIsFirst();
        Check.end();
    }

    private static void leftSides() {
        String[] noReferences = {
            "1", "\"a\"", "@", "this", "null", "true", "(a, b)", "a()", "new a", "new a()", "[]", "(a = b)",
            "(a + b)", "(- a)", "(a ++)", "(a ? b : c)", "(function () {})", "({})", "((1))"
        };
        for (String left : noReferences) {
            String begun = "a = " + left;
            Script.refuses(begun + " `= b");
            Script.refuses(begun + " `+= b");
            Script.refuses(begun + " `++");
            Script.refuses(begun + " `--");
            Script.refuses("a = `++ " + left);
            Script.refuses("a = `-- " + left + ";");
            Script.refuses("for (" + left + " `in b) ;");
        }
        String[] references = {"a", "a.b", "a[b]", "(a)", "((a.b))", "a().b", "new a().b", "this.a", "1 .a", "eval"};
        for (String left : references) {
            Script.accepts("a = " + left + " = b");
            Script.accepts(left + " ++");
            Script.accepts("-- " + left);
            Script.accepts("for (" + left + " in b) ;");
        }
        Script.refuses("a + b `= c");
        Script.refuses("- a `= b");
        Script.refuses("a ++ `= b");
        Script.refuses("a ? b : c + d `= e");
        Script.refuses("a || b `= c");
        Script.refuses("(a = b) `= c");
        Script.refuses("{} `= a");
    }

    private static void operands() {
        Script.refuses("`++ a ++");
        Script.refuses("`++ ++ a");
        Script.refuses("`++ - a");
        Script.refuses("- `++ - a");
        Script.refuses("`-- a()");
        Script.refuses("`++ 1 + ");
        Script.refuses("`++ 1 )");
        Script.refuses("`++ 1 2");
        Script.refuses("`++ a ++ ++");
        Script.refuses("++ ( `)");
        Script.refuses("++ -`");
        Script.accepts("++ 1 .a");
        Script.accepts("++ 1 [a]");
        Script.accepts("++ a().b");
        Script.accepts("delete a ++");
    }

    private static void targets() {
        Script.refuses("`break");
        Script.refuses("`continue");
        Script.refuses("`break;");
        Script.refuses("`continue )");
        Script.refuses("break `a");
        Script.refuses("continue `a");
        Script.refuses("`break\na");
        Script.refuses("`continue\na");
        Script.refuses("`break if");
        Script.refuses("if (a) `break");
        Script.refuses("a: `break");
        Script.refuses("switch (a) { case b: `continue }");
        Script.refuses("while (a) { (function () { `break }) }");
        Script.refuses("while (a) { (function () { `continue }) }");
        Script.refuses("switch (a) { case b: (function () { `break }) }");
        Script.refuses("while (a) ; `break");
        Script.refuses("do ; while (a); `continue");
        Script.refuses("for (;;) ; `break");
        Script.refuses("switch (a) {} `break");
        Script.refuses("while (a) break `b");
        Script.refuses("while (a) continue `b");
        Script.refuses("a: ; break `a");
        Script.refuses("a: while (b) { (function () { break `a }) }");
        Script.refuses("a: while (b) (function () { continue `a })");
        Script.refuses("a: { while (b) continue `a }");
        Script.refuses("a: { continue `a }");
        Script.refuses("a: if (b) while (c) continue `a");
        Script.refuses("a: switch (b) { case c: while (d) continue `a }");
        Script.refuses("a: { b: while (c) { continue b; continue `a } }");
        Script.refuses("a: { while (b) while (c) continue `a }");
        Script.refuses("a: { for (;;) while (c) continue `a }");
        Script.refuses("a: { do while (b) continue `a\nwhile (c) }");
        Script.refuses("a: if (b) ; else while (c) continue `a");
        Script.refuses("a: with (b) while (c) continue `a");
        Script.refuses("a: { with (b) while (c) continue `a }");
        Script.refuses("a: { (function () { while (b) ; }); while (c) continue `a }");
        Script.accepts("a: while (b) if (c) ; else while (d) continue a");
        Script.accepts("while (a) { switch (b) { case c: continue; break } }");
        Script.accepts("while (a) { (function () { while (b) break; }); break }");
        Script.accepts("a: b: c: for (d in e) { continue a; continue b; continue c }");
        Script.accepts("a: { b: while (c) break a }");
        Script.accepts("a: switch (b) { case c: break a }");
        Script.accepts("with (a) while (b) if (c) try { break } finally { continue }");
        Script.refuses("`return");
        Script.refuses("`return a");
        Script.refuses("{ `return }");
        Script.refuses("while (a) `return");
        Script.refuses("function f() {} `return");
        Script.accepts("(function () { if (a) return; { return b } })");
        Script.accepts("({get a() { return }, set a(b) { return }})");
    }

    private static void labels() {
        Script.refuses("a: `a: ;");
        Script.refuses("a: b: `a: ;");
        Script.refuses("a: { `a: ; }");
        Script.refuses("a: while (b) { if (c) `a: ; }");
        Script.accepts("a: ; a: ;");
        Script.accepts("a: { b: ; } b: a: ;");
        Script.accepts("a: { (function () { a: ; }) }");
        Script.accepts("a: { b: ; b: ; }");
        Script.refuses("(function () { a: { `a: ; } })");
        Script.refuses("a: { (function () {}); `a: ; }");
    }

    private static void properties() {
        Script.accepts("({a: 1, a: 2})");
        Script.accepts("({get a() {}, set a(b) {}})");
        Script.accepts("({set a(b) {}, get a() {}})");
        Script.accepts("({get a() {}, get b() {}, set c(d) {}, e: f})");
        Script.accepts("({a: {get a() {}}})");
        Script.accepts("({get a() { ({a: 1}) }})");
        Script.refuses("({a: 1, get `a() {}})");
        Script.refuses("({a: 1, set `a(b) {}})");
        Script.refuses("({get a() {}, `a: 1})");
        Script.refuses("({set a(b) {}, `a: 1})");
        Script.refuses("({get a() {}, get `a() {}})");
        Script.refuses("({set a(b) {}, set `a(b) {}})");
        Script.refuses("({get a() {}, set a(b) {}, get `a() {}})");
        Script.refuses("({get a() {}, set a(b) {}, set `a(b) {}})");
        Script.refuses("({get a() {}, set a(b) {}, `a: 1})");
        Script.refuses("({a: 1, b: 2, get `\"a\"() {}})");
        Script.refuses("({get 1() {}, `\"1\": 2})");
        Script.refuses("({get get() {}, `get: 1})");
        Script.refuses("({get: 1, get `get() {}})");
        Script.refuses("({a: {b: 1}, get c() { 1 }, get `a() {}})");
    }

    private static void accessors() {
        Script.refuses("({get a(`b) {}})");
        Script.refuses("({get a(`, b) {}})");
        Script.refuses("({get a `{}})");
        Script.refuses("({set a(`) {}})");
        Script.refuses("({set a(b`, c) {}})");
        Script.refuses("({set a(b `c) {}})");
        Script.refuses("({set a(`1) {}})");
        Script.refuses("({set a(`if) {}})");
        Script.refuses("({get a() `b})");
        Script.refuses("({get a `: b})");
        Script.refuses("({get a() {} `b: c})");
        Script.accepts("({set a(eval) {}})");
    }

    private static void whichReasonIsFirst() {
        // a data property is one when its : was read, an accessor when its name was
        Script.refuses("({get a() {}, a `b})");
        Script.refuses("({get a() {}, a`");
        Script.refuses("({a: 1, get `a b})");
        Script.refuses("({a: 1, get `a");
        // break and continue come before the token behind them, but not before that was looked at as a label
        Script.refuses("`break )");
        Script.refuses("`break \\if");
        Script.refuses("break `a )");
        // an operand comes before the token behind it
        Script.refuses("`++ 1 = 2");
        Script.refuses("1 `= ++ 2");
        Script.refuses("1 `= )");
        Script.refuses("a = 1 `= 2 = 3");
        // what is nested is through first
        Script.refuses("++ (`++ 1)");
        Script.refuses("`++ (++ a)");
        Script.refuses("switch (a) { default: `return; default: }");
    }
}
