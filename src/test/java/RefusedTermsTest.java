/**
 * Terms, what is REFUSED: clause by clause, each just inside of what is allowed and just outside. In a
 * refused script the mark stands before the token at which it is refused.
 */
public final class RefusedTermsTest {
    private static final String STRICT = "\"use strict\";";

    private RefusedTermsTest() {
    }

    public static void main(String[] args) {
        partsOfPrograms();
        theEnd();
        leftSides();
        evalAndArguments();
        withAndDelete();
        parameters();
        properties();
        jumps();
        labels();
        returns();
        defaults();
        declarations();
        tries();
        brackets();
        accessors();
        forIn();
        strictCode();
        severalReasons();
        Check.end();
    }

    /** As long as there is a continuation, tokens are refused at the END alone, if at all. */
    private static void partsOfPrograms() {
        String[] programs = {
            "var a, b = c + d * e, f = g ? h : i, j = k = l;",
            "if (a) { b } else if (c) ; else d;",
            "do { a; } while (b) ; while (c) { d }",
            "for (var a = 1, b = 2; a < b; c) ; for (;;) ; for (a in b, c) ; for (var a in b) ; for (var a = 1 in b) ;",
            "for (a.b[c] in d) ; for (a, b; c, d; e, f) ; for (a ? b in c : d;;) ;",
            "function f(a, b, c) { return a + b; function g() { return } return function h() {} }",
            "switch (a, b) { case c: d; e; case f + g: default: ; case h: }",
            "try { a } catch (b) { c } finally { d } try {} finally {} try {} catch (eval) {}",
            "throw a, b; debugger; with (a) b: c: d;",
            "a = [b, , c, [], [, ], [d, ]]; e[f][g, h].i(j, k)().l = m",
            "a = {b: c, \"d\": e, 1: f, if: g, get: h, set: i, get j() { k }, set l(m) { n }, }",
            "new a, new b(), new c.d[e](f, g), new new h(i)(j).k, new function () {}(l), new (m())",
            "typeof void - + ~ ! a instanceof b in c << d >> e >>> f",
            "a += b -= c *= d /= e %= f <<= g >>= h >>>= i &= j ^= k |= l",
            "a || b && c | d ^ e & f == g != h === i !== j < k > l <= m >= n",
            "a.if.class.get ++; ++ a; -- a; a --; delete a; this; null; true; false; @; 1; \"b\"",
            "\"use strict\"; function f(a, b) { \"c\"; return {d: a, e: b} }",
            "function f(a, a) { \"b\"; with (c) d; eval = arguments = let }",
            "a\nb\n++ c\nvar d\nif (e) f\nelse g\ndo h\nwhile (i)\nthrow j\ndebugger",
            "(a, b), (((c))).d, (e)[f], ((function () {})), ({}), ([])",
        };
        for (String program : programs) {
            Script whole = new Script(program);
            Check.same(program, whole.tree().startsWith("PROGRAM"), true);
            for (int n = 0; n < whole.tokens.size(); n++) {
                String got = new Script(whole.tokens.subList(0, n).toArray(new int[0][])).tree();
                boolean due = got.equals("refused at " + n) || got.startsWith("PROGRAM") && !got.contains("but");
                Check.same("the first " + n + " of " + program + ": " + got, due, true);
            }
        }
    }

    private static void theEnd() {
        Script.accepts("");
        Script.refuses("(`");
        Script.refuses("{`");
        Script.refuses("a +`");
        Script.refuses("a ? b :`");
        Script.refuses("if (a)`");
        Script.refuses("function f() {`");
        Script.accepts("a + b");
        Script.accepts("{}");
    }

    private static void leftSides() {
        for (String sign : "= |= ^= &= <<= >>= >>>= += -= *= /= %=".split(" ")) {
            Script.accepts("a " + sign + " b");
            Script.accepts("a.b " + sign + " c");
            Script.accepts("a[b] " + sign + " c");
            Script.accepts("((a)) " + sign + " b");
            Script.refuses("a() `" + sign + " b");
            Script.refuses("(a()) `" + sign + " b");
            Script.refuses("(a, b) `" + sign + " c");
            Script.refuses("this `" + sign + " b");
            Script.refuses("a ++ `" + sign + " b");
            Script.refuses("! a `" + sign + " b");
            Script.refuses("new a `" + sign + " b");
            Script.accepts("new a().b " + sign + " c");
            Script.accepts("a = b " + sign + " c");
            Script.refuses("(a = b) `" + sign + " c");
            Script.refuses("a + b `" + sign + " c");
            Script.accepts("a ? b : c " + sign + " d");
            Script.refuses("(a ? b : c) `" + sign + " d");
        }
        for (String sign : new String[] {"++", "--"}) {
            Script.accepts("a " + sign);
            Script.accepts("(a.b) " + sign);
            Script.accepts("a()[b] " + sign);
            Script.refuses("a() `" + sign);
            Script.refuses("(1) `" + sign);
            Script.refuses("a ++ `" + sign);
            Script.accepts(sign + " a");
            Script.accepts(sign + " (a.b)");
            Script.accepts(sign + " a()[b]");
            Script.refuses("`" + sign + " a()");
            Script.refuses("`" + sign + " (1)");
            Script.refuses("`" + sign + " a ++");
            Script.refuses("`" + sign + " - a");
            // the operand of the one behind is not allowed, before that of the one ahead is through
            Script.refuses("++ 1 `" + sign);
            Script.refuses("++ a() `" + sign);
        }
        Script.accepts("for (a in b) ;");
        Script.accepts("for ((a.b) in c) ;");
        Script.refuses("for (a() `in b) ;");
        Script.refuses("for ((a, b) `in c) ;");
        Script.refuses("for (1 `in b");
    }

    private static void evalAndArguments() {
        for (String name : new String[] {"eval", "arguments"}) {
            Script.accepts(name + " = a; " + name + " ++; -- " + name + "; for (" + name + " in a) ;");
            Script.accepts("var " + name + "; function " + name + "(" + name + ") {} try {} catch (" + name + ") {}");
            Script.refuses(STRICT + name + " `= a");
            Script.refuses(STRICT + name + " `++");
            Script.refuses(STRICT + "`-- " + name);
            Script.refuses(STRICT + "for (" + name + " `in a) ;");
            Script.refuses(STRICT + "var a, `" + name);
            Script.refuses(STRICT + "function `" + name + "() {}");
            Script.refuses(STRICT + "function a(`" + name + ") {}");
            Script.refuses(STRICT + "try {} catch (`" + name + ") {}");
            Script.refuses("function " + name + "() `{ \"use strict\" }");
            Script.refuses("(function (a, " + name + ") `{ \"use strict\" })");
            Script.accepts("function f() { \"use strict\" } var " + name);
            Script.accepts(STRICT + name + "(" + name + ".a = " + name + "[b] = c)");
        }
        Script.accepts(STRICT + "get = set; var get, set; function get(set) {}");
    }

    private static void withAndDelete() {
        Script.accepts("with (a) ;");
        Script.refuses(STRICT + "`with (a) ;");
        Script.refuses(STRICT + "if (a) `with");
        Script.accepts("delete a; delete (a); delete ((a))");
        Script.refuses(STRICT + "`delete a");
        Script.refuses(STRICT + "`delete ((a))");
        Script.accepts(STRICT + "delete a.b; delete (a.b); delete a[b]; delete a(); delete (a, b); delete this; delete 1");
        Script.accepts(STRICT + "delete a.b.c; delete a ++; delete typeof a; delete new a");
    }

    private static void parameters() {
        Script.accepts("function f(a, a, a) {}");
        Script.accepts(STRICT + "function f(a, b, c) {}");
        Script.refuses(STRICT + "function f(a, `a, a) {}");
        Script.refuses(STRICT + "function f(a, b, `a) {}");
        Script.refuses(STRICT + "(function (a, `a) {})");
        Script.accepts("function f(a, b) { \"use strict\" }");
        Script.refuses("function f(a, a) `{ \"use strict\" }");
        Script.refuses("function f(a, b, a) `{ \"c\"; \"use strict\"; d }");
        Script.accepts("function f(a, a) { \"c\"; (\"use strict\") }");
        Script.refuses("function let() `{ \"use strict\" }");
        Script.refuses("function f(yield) `{ \"use strict\" }");
        Script.refuses("({set a(static) `{ \"use strict\" }})");
        Script.accepts("function let(yield) { \"use stricter\" }");
    }

    private static void properties() {
        Script.accepts("({a: 1, a: 2, a: 3})");
        Script.refuses(STRICT + "({a: 1, `a: 2})");
        Script.refuses(STRICT + "({a: 1, b: 2, `a: 3})");
        Script.accepts(STRICT + "({a: 1, b: 2, c: {a: 3}})");
        Script.refuses("({a: 1, get `a() {}})");
        Script.refuses("({a: 1, set `a(b) {}})");
        Script.refuses("({get a() {}, `a: 1})");
        Script.refuses("({set a(b) {}, `a: 1})");
        Script.refuses("({get a() {}, get `a() {}})");
        Script.refuses("({set a(b) {}, set `a(c) {}})");
        Script.accepts("({get a() {}, set a(b) {}})");
        Script.accepts(STRICT + "({set a(b) {}, get a() {}, c: 1})");
        Script.refuses("({set a(b) {}, get a() {}, set `a(c) {}})");
        // a property is a data one when its : was read
        Script.refuses("({get a() {}, a `})");
        Script.refuses("({get a() {}, a `, b: c})");
        Script.refuses("({get a() {}, a `(");
        Script.refuses(STRICT + "({a: 1, a `}");
        Script.refuses(STRICT + "({a: 1, `a: )");
    }

    private static void jumps() {
        for (String loop : new String[] {"while (a) ", "for (;;) ", "for (a in b) ", "for (var a in b) "}) {
            Script.accepts(loop + "break");
            Script.accepts(loop + "continue");
            Script.accepts(loop + "{ if (c) break; else continue }");
            Script.refuses(loop + "; `break");
            Script.refuses(loop + "; `continue");
            Script.refuses(loop + "(function () { `break })");
            Script.refuses(loop + "(function () { `continue })");
            Script.refuses(loop + "({get a() { `break }})");
            Script.accepts("x: " + loop + "continue x");
            Script.accepts("x: y: " + loop + "{ continue x; continue y; break x; break y }");
            Script.refuses("x: { " + loop + "continue `x }");
            Script.refuses(loop + "x: continue `x");
            Script.accepts(loop + "x: break x");
            Script.refuses("x: " + loop + "; " + loop + "continue `x");
        }
        Script.refuses("x: while (a) ; y: { while (b) continue `y }");
        Script.accepts("do break; while (a)");
        Script.accepts("do continue; while (a)");
        Script.refuses("do ; while (a)\n`break");
        Script.accepts("switch (a) { case b: break; default: break }");
        Script.refuses("switch (a) { case b: `continue }");
        Script.refuses("switch (a) {} `break");
        Script.accepts("while (a) switch (b) { case c: continue }");
        Script.refuses("`break");
        Script.refuses("`continue");
        Script.refuses("{ `break }");
        Script.refuses("if (a) `continue");
        Script.refuses("a: `break");
        Script.accepts("a: break a");
        Script.refuses("a: break `b");
        Script.refuses("a: continue `a");
        // they are looked at before the token behind them, and that only as a label
        Script.refuses("`break )");
        Script.refuses("`break 1");
        Script.refuses("while (a) break `)");
        Script.refuses("while (a) break `1");
        Script.refuses("break `a )");
        Script.refuses("`break\na )");
        Script.refuses("while (a) break\n`)");
    }

    private static void labels() {
        Script.refuses("a: `a: ;");
        Script.refuses("a: { b: { c: { `a: ; } } }");
        Script.refuses("a: while (b) `a: ;");
        Script.refuses("a: switch (b) { case c: `a: ; }");
        Script.refuses("a: try { `a: ; } finally {}");
        Script.accepts("a: ; a: ;");
        Script.accepts("a: { b: ; b: ; } a: ;");
        Script.accepts("a: (function () { a: ; })");
        Script.accepts("a: ({get b() { a: ; }})");
        Script.refuses("a: a `b");
    }

    private static void returns() {
        Script.refuses("`return");
        Script.refuses("{ `return }");
        Script.refuses("function f() {} `return");
        Script.refuses("(function () {}), a\n`return");
        Script.accepts("function f() { return }");
        Script.accepts("(function () { { return a } })");
        Script.accepts("({get a() { return }, set a(b) { return }})");
    }

    private static void defaults() {
        Script.accepts("switch (a) { default: }");
        Script.refuses("switch (a) { default: `default: }");
        Script.refuses("switch (a) { case b: default: c; case d: `default: }");
        Script.accepts("switch (a) { default: switch (b) { default: } }");
        Script.refuses("switch (a) { default: switch (b) { default: } `default: }");
        Script.accepts("switch (a) { default: } switch (b) { default: }");
        Script.accepts("switch (a) { default: (function () { switch (b) { default: } }) }");
    }

    private static void declarations() {
        String[] round = {
            "{ #}", "if (a) #", "if (a) ; else #", "do #while (a)", "while (a) #", "for (;;) #", "for (a in b) #",
            "with (a) #", "switch (a) { case b: #}", "switch (a) { default: #}", "a: #", "try { #} finally {}",
            "try {} catch (a) { #}", "try {} finally { #}"
        };
        for (String text : round) {
            Script.refuses(text.replace("#", "`function f() {} "));
            Script.accepts(text.replace("#", "(function f() {}); "));
            Script.refuses("function g() { " + text.replace("#", "`function f() {} ") + " }");
            Script.accepts(text.replace("#", "(function g() { function f() {} }); "));
        }
        Script.accepts("function f() {} ; function g() {}");
        Script.accepts("function f() { ; function g() {} }");
    }

    private static void tries() {
        Script.refuses("try {}`");
        Script.refuses("try {} `;");
        Script.refuses("try {}\n`a");
        Script.refuses("{ try {} `}");
        Script.accepts("try {} catch (a) {}");
        Script.accepts("try {} finally {}");
        Script.accepts("try {} catch (a) {} finally {}");
        Script.refuses("try {} finally {} `finally {}");
        Script.refuses("try {} finally {} `catch (a) {}");
    }

    private static void brackets() {
        Script.accepts("(a) = b; (a) ++; ++ (a); for ((a) in b) ;");
        Script.refuses("(1) `= b");
        Script.refuses("((a ++)) `= b");
        Script.refuses(STRICT + "(eval) `= b");
        Script.refuses(STRICT + "((eval)) `++");
        Script.refuses(STRICT + "`-- ((arguments))");
        Script.refuses(STRICT + "for ((eval) `in a) ;");
        Script.refuses(STRICT + "`delete (((a)))");
        // as a text alone, and as a label, they are not as without them
        Script.accepts("(\"use strict\"); with (a) ;");
        Script.refuses("(a) `: b");
    }

    private static void accessors() {
        Script.accepts("({get a() {}})");
        Script.refuses("({get a(`b) {}})");
        Script.accepts("({set a(b) {}})");
        Script.refuses("({set a(`) {}})");
        Script.refuses("({set a(b `, c) {}})");
        Script.refuses("({set a(b `c) {}})");
        Script.accepts("({get 1() {}, set 1(a) {}, get \"b\"() {}, set \"b\"(a) {}})");
        Script.refuses("({get `@");
        Script.refuses("({get a`");
    }

    private static void forIn() {
        Script.accepts("for (var a = 1 in b) ;");
        Script.accepts("for (var a = 1, b = 2; ; ) ;");
        Script.refuses("for (var a = 1, b `in c) ;");
        Script.refuses("for (a = 1 `in b) ;");
        Script.accepts("for (a in b, c) ;");
        Script.accepts("for (var a in b, c) ;");
        Script.refuses("for (a, b `in c) ;");
        Script.refuses("for (a in b `; c; d) ;");
        Script.accepts(STRICT + "for (var a = 1 in b) ;");
    }

    private static void strictCode() {
        String with = "with (a) ;";
        Script.refuses("\"use strict\"; `" + with);
        Script.refuses("\"use strict\"\n`" + with);
        Script.refuses("\"a\"; \"use strict\"; `" + with);
        Script.refuses("\"use strict\"; \"a\"; b; `" + with);
        Script.refuses("\"use strict\"; function f() { `" + with + " }");
        Script.refuses("function f() { \"use strict\"; `" + with + " }");
        Script.refuses("function f() { \"use strict\"; (function () { `" + with + " }) }");
        Script.refuses("({get a() { \"use strict\"; `" + with + " }})");
        Script.accepts("\"use strict\" + a; " + with);
        Script.accepts("\"use strict\", a; " + with);
        Script.accepts("\"use strict\" ? a : b; " + with);
        Script.accepts("\"use strict\".a; " + with);
        Script.accepts("\"use strict\"(); " + with);
        Script.accepts("(\"use strict\"); " + with);
        Script.accepts("(\"a\"); \"use strict\"; " + with);
        Script.accepts("a; \"use strict\"; " + with);
        Script.accepts("; \"use strict\"; " + with);
        Script.accepts("{ \"use strict\"; " + with + " }");
        Script.accepts("function f() { \"use strict\" } " + with);
        Script.accepts("function f() { (function () { \"use strict\" }); " + with + " }");
        Script.accepts("function f() { ; \"use strict\"; " + with + " }");
    }

    private static void severalReasons() {
        // a directive's statement is through before the token behind it
        Script.refuses("function f(a, a) `{ \"use strict\"\n) }");
        Script.refuses("function f(a, a) `{ \"use strict\"; ) }");
        Script.refuses("function f(a, a) { \"use strict\" `) }");
        Script.refuses("function f(a, a) { \"use strict\" + `) }");
        Script.refuses("function f(a, a) { ; `) \"use strict\" }");
        // an operand is through before the token behind it
        Script.refuses("`++ 1 )");
        Script.refuses("`++ a() = b");
        Script.refuses("++ a `= b");
        Script.refuses("++ (a) `)");
        Script.refuses(STRICT + "`delete a )");
        Script.refuses(STRICT + "`delete a = )");
        Script.refuses(STRICT + "delete a.`");
        Script.refuses(STRICT + "delete a.`)");
        // what is read first
        Script.refuses("1 `= return");
        Script.refuses("`return = 1");
        Script.refuses("a: { `a: break b }");
        Script.refuses("a: { break `b; a: ; }");
        Script.refuses(STRICT + "function `eval(a, a) {}");
        Script.refuses(STRICT + "function f(a, `a, eval) {}");
        Script.refuses(STRICT + "function f(`eval, a, a) {}");
    }
}
