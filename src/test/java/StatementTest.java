/** Promise 3: the trees of statements and functions. */
public final class StatementTest {
    private StatementTest() {
    }

    public static void main(String[] args) {
        simpleOnes();
        variables();
        conditions();
        loops();
        forLoops();
        forInLoops();
        inIsAnOperatorElsewhere();
        jumps();
        switches();
        tries();
        functions();
        Check.end();
    }

    private static void simpleOnes() {
        Script.parses("", "");
        Script.parses(";", "EMPTY");
        Script.parses("{}", "BLOCK");
        Script.parses("{;{}}", "BLOCK(EMPTY BLOCK)");
        Script.parses("{a: b}", "BLOCK(LABELLED:4(EXPRESSION(NAME:5)))");
        Script.parses("a;;b;", "EXPRESSION(NAME:4) EMPTY EXPRESSION(NAME:5)");
        Script.parses("debugger;", "DEBUGGER");
        Script.parses("with (a, b) c;", "WITH(COMMA(NAME:4 NAME:5) EXPRESSION(NAME:6))");
        Script.parses("throw a, b;", "THROW(COMMA(NAME:4 NAME:5))");
        Script.parses("a: b: c;", "LABELLED:4(LABELLED:5(EXPRESSION(NAME:6)))");
        Script.parses("let: ;", "LABELLED:100(EMPTY)");
        Script.refuses("{`");
        Script.refuses("`}");
        Script.refuses("{ a; `)");
        Script.refuses("a:`");
        Script.refuses("{ a: `}");
        Script.refuses("`class: a");
        Script.refuses("with `a");
        Script.refuses("with (`) a");
        Script.refuses("with (a)`");
        Script.refuses("debugger `a");
        Script.refuses("throw`");
        Script.refuses("throw `;");
        Script.refuses("(a)`: b");
        Script.refuses("`\\debugger");
        Script.refuses("`\\debugger: a");
    }

    private static void variables() {
        Script.parses("var a;", "VAR(DECLARATION:4)");
        Script.parses("var a = b;", "VAR(DECLARATION:4(NAME:5))");
        Script.parses("var a, b = c = d, e;",
            "VAR(DECLARATION:4 DECLARATION:5(ASSIGN(NAME:6 NAME:7)) DECLARATION:8)");
        Script.parses("var eval, get = a in b", "VAR(DECLARATION DECLARATION:2(BINARY:15(NAME:4 NAME:5)))");
        Script.parses("var yield", "VAR(DECLARATION:101)");
        Script.refuses("var`");
        Script.refuses("var `;");
        Script.refuses("var `1");
        Script.refuses("var `if");
        Script.refuses("var `\\if");
        Script.refuses("var `class");
        Script.refuses("var a,`");
        Script.refuses("var a, `;");
        Script.refuses("var a `+= b");
        Script.refuses("var a `.b");
        Script.refuses("var a = `;");
        Script.refuses("var a = b `c");
    }

    private static void conditions() {
        Script.parses("if (a) b;", "IF(NAME:4 EXPRESSION(NAME:5))");
        Script.parses("if (a, b) ; else ;", "IF(COMMA(NAME:4 NAME:5) EMPTY EMPTY)");
        Script.parses("if (a) if (b) ; else {}", "IF(NAME:4 IF(NAME:5 EMPTY BLOCK))");
        Script.parses("if (a) { if (b) ; } else {}", "IF(NAME:4 BLOCK(IF(NAME:5 EMPTY)) BLOCK)");
        Script.parses("if (a) ; else if (b) ; else ;", "IF(NAME:4 EMPTY IF(NAME:5 EMPTY EMPTY))");
        Script.refuses("if `a");
        Script.refuses("if (`)");
        Script.refuses("if (a`");
        Script.refuses("if (a)`");
        Script.refuses("if (a) `else");
        Script.refuses("if (a) ; else`");
        Script.refuses("if (a) ; else ; `else");
        Script.refuses("if (a) ; `\\else ;");
        Script.refuses("if (a) b `else c");
        Script.refuses("{ if (a) `}");
    }

    private static void loops() {
        Script.parses("do a; while (b, c);", "DO(EXPRESSION(NAME:4) COMMA(NAME:5 NAME:6))");
        Script.parses("do do ; while (a); while (b)", "DO(DO(EMPTY NAME:4) NAME:5)");
        Script.parses("do {} while (a); while (b) ;", "DO(BLOCK NAME:4) WHILE(NAME:5 EMPTY)");
        Script.parses("while (a) b", "WHILE(NAME:4 EXPRESSION(NAME:5))");
        Script.refuses("do`");
        Script.refuses("do while (a)`");
        Script.refuses("do ;`");
        Script.refuses("do ; `a");
        Script.refuses("do ; while `a");
        Script.refuses("do ; while (`)");
        Script.refuses("do a `while (b)");
        Script.refuses("do ; `\\while (a)");
        Script.refuses("while (`) ;");
        Script.refuses("while (a)`");
        Script.refuses("{ while (a) `}");
    }

    private static void forLoops() {
        Script.parses("for (;;) ;", "FOR(NONE NONE NONE EMPTY)");
        Script.parses("for (a; b; c) d", "FOR(NAME:4 NAME:5 NAME:6 EXPRESSION(NAME:7))");
        Script.parses("for (a, b; c, d; e, f) ;",
            "FOR(COMMA(NAME:4 NAME:5) COMMA(NAME:6 NAME:7) COMMA(NAME:8 NAME:9) EMPTY)");
        Script.parses("for (var a = 1, b; ; ) ;", "FOR(VAR(DECLARATION:4(NUMBER) DECLARATION:5) NONE NONE EMPTY)");
        Script.parses("for (var a; b in c; d in e) ;",
            "FOR(VAR(DECLARATION:4) BINARY:15(NAME:5 NAME:6) BINARY:15(NAME:7 NAME:8) EMPTY)");
        Script.parses("for ((a in b);;) ;", "FOR(BINARY:15(NAME:4 NAME:5) NONE NONE EMPTY)");
        Script.parses("for (a[b in c];;) ;", "FOR(INDEX(NAME:4 BINARY:15(NAME:5 NAME:6)) NONE NONE EMPTY)");
        Script.parses("for (a(b in c);;) ;", "FOR(CALL(NAME:4 BINARY:15(NAME:5 NAME:6)) NONE NONE EMPTY)");
        Script.parses("for ([b in c];;) ;", "FOR(ARRAY(BINARY:15(NAME:5 NAME:6)) NONE NONE EMPTY)");
        Script.parses("for (a ? b in c : d;;) ;",
            "FOR(CONDITIONAL(NAME:4 BINARY:15(NAME:5 NAME:6) NAME:7) NONE NONE EMPTY)");
        Script.parses("for (var a = function () { b in c };;) ;",
            "FOR(VAR(DECLARATION:4(FUNCEXPR(BODY(EXPRESSION(BINARY:15(NAME:5 NAME:6)))))) NONE NONE EMPTY)");
        Script.parses("for (a = {b: c in d};;) ;",
            "FOR(ASSIGN(NAME:4 OBJECT(DATA:5(BINARY:15(NAME:6 NAME:7)))) NONE NONE EMPTY)");
        Script.parses("for (a instanceof b;;) ;", "FOR(BINARY:14(NAME:4 NAME:5) NONE NONE EMPTY)");
        Script.refuses("for `;");
        Script.refuses("for (`)");
        Script.refuses("for (a`)");
        Script.refuses("for (a; b`)");
        Script.refuses("for (a; b; c`;)");
        Script.refuses("for (a `b");
        Script.refuses("for (;;)`");
        Script.refuses("for (var`;;)");
        Script.refuses("for (;`var a;)");
        Script.refuses("for (a = b `in c;;) ;");
        Script.refuses("for (a || b `in c;;) ;");
        Script.refuses("for ({a: b `;;) ;");
    }

    private static void forInLoops() {
        Script.parses("for (a in b) c", "FORIN(NAME:4 NAME:5 EXPRESSION(NAME:6))");
        Script.parses("for (a in b, c) ;", "FORIN(NAME:4 COMMA(NAME:5 NAME:6) EMPTY)");
        Script.parses("for (a in b in c) ;", "FORIN(NAME:4 BINARY:15(NAME:5 NAME:6) EMPTY)");
        Script.parses("for (a.b in c) ;", "FORIN(MEMBER:5(NAME:4) NAME:6 EMPTY)");
        Script.parses("for (a()[b in c] in d) ;",
            "FORIN(INDEX(CALL(NAME:4) BINARY:15(NAME:5 NAME:6)) NAME:7 EMPTY)");
        Script.parses("for ((a) in b) ;", "FORIN(NAME:4 NAME:5 EMPTY)");
        Script.parses("for (var a in b) ;", "FORIN(VAR(DECLARATION:4) NAME:5 EMPTY)");
        Script.parses("for (var a = 1 in b) ;", "FORIN(VAR(DECLARATION:4(NUMBER)) NAME:5 EMPTY)");
        Script.parses("for (var a = b ? c in d : e in f) ;",
            "FORIN(VAR(DECLARATION:4(CONDITIONAL(NAME:5 BINARY:15(NAME:6 NAME:7) NAME:8))) NAME:9 EMPTY)");
        Script.parses("for (new a().b in c) ;", "FORIN(MEMBER:5(NEW(NAME:4)) NAME:6 EMPTY)");
        Script.refuses("for (`in a) ;");
        Script.refuses("for (var a, b `in c) ;");
        Script.refuses("for (var a = 1, b = 2 `in c) ;");
        Script.refuses("for (1 `in a) ;");
        Script.refuses("for (a() `in b) ;");
        Script.refuses("for (a + b `in c) ;");
        Script.refuses("for (a, b `in c) ;");
        Script.refuses("for (a = b `in c) ;");
        Script.refuses("for (a ? b : c `in d) ;");
        Script.refuses("for (a ++ `in b) ;");
        Script.refuses("for (- a `in b) ;");
        Script.refuses("for (this `in b) ;");
        Script.refuses("for (new a `in b) ;");
        Script.refuses("for ((a, b) `in c) ;");
        Script.refuses("for (a in`) ;");
        Script.refuses("for (a in b`; c) ;");
        Script.refuses("for (a in b)`");
        Script.refuses("for (a `\\in b) ;");
        Script.refuses("for ((a in b)`) ;");
        Script.refuses("for (var a in b, c in d`;;) ;");
    }

    private static void inIsAnOperatorElsewhere() {
        String in = "BINARY:15(NAME:4 NAME:5)";
        Script.parses("if (a in b) ;", "IF(" + in + " EMPTY)");
        Script.parses("while (a in b) ;", "WHILE(" + in + " EMPTY)");
        Script.parses("while (c, a in b) ;", "WHILE(COMMA(NAME:6 " + in + ") EMPTY)");
        Script.parses("do ; while (a in b)", "DO(EMPTY " + in + ")");
        Script.parses("with (a in b) ;", "WITH(" + in + " EMPTY)");
        Script.parses("throw a in b", "THROW(" + in + ")");
        Script.parses("switch (a in b) { case a in b: a in b }", "SWITCH(" + in + " CASE(" + in + " EXPRESSION(" + in + ")))");
        Script.parses("function f() { return a in b }", "FUNCTION:9(BODY(RETURN(" + in + ")))");
        Script.parses("for (;;) a in b", "FOR(NONE NONE NONE EXPRESSION(" + in + "))");
    }

    private static void jumps() {
        Script.parses("while (a) break;", "WHILE(NAME:4 BREAK)");
        Script.parses("while (a) continue;", "WHILE(NAME:4 CONTINUE)");
        Script.parses("a: while (b) { break a; continue a; }",
            "LABELLED:4(WHILE(NAME:5 BLOCK(BREAK:5 CONTINUE:5)))");
        Script.parses("eval: while (b) break eval;", "LABELLED(WHILE(NAME:5 BREAK:1))");
        Script.parses("a: { break a }", "LABELLED:4(BLOCK(BREAK:5))");
        Script.parses("a: break a", "LABELLED:4(BREAK:5)");
        Script.parses("a: b: do continue a; while (c)",
            "LABELLED:4(LABELLED:5(DO(CONTINUE:5 NAME:6)))");
        Script.parses("a: for (;;) b: for (c in d) continue a",
            "LABELLED:4(FOR(NONE NONE NONE LABELLED:5(FORIN(NAME:6 NAME:7 CONTINUE:5))))");
        Script.parses("function f() { return }", "FUNCTION:9(BODY(RETURN))");
        Script.parses("function f() { return; }", "FUNCTION:9(BODY(RETURN))");
        Script.parses("function f() { return a, b; }", "FUNCTION:9(BODY(RETURN(COMMA(NAME:4 NAME:5))))");
        Script.refuses("while (a) break `1");
        Script.refuses("while (a) continue `if");
        Script.refuses("a: while (b) break a `c");
        Script.refuses("function f() { return a `b }");
        Script.refuses("function f() { return `) }");
        Script.refuses("while (a) break `\\if");
    }

    private static void switches() {
        Script.parses("switch (a) {}", "SWITCH(NAME:4)");
        Script.parses("switch (a, b) { case c, d: e; f; case g: default: ; case h: break }",
            "SWITCH(COMMA(NAME:4 NAME:5) CASE(COMMA(NAME:6 NAME:7) EXPRESSION(NAME:8) EXPRESSION(NAME:9)) "
            + "CASE(NAME:10) DEFAULT(EMPTY) CASE(NAME:11 BREAK))");
        Script.parses("switch (a) { default: }", "SWITCH(NAME:4 DEFAULT)");
        Script.parses("switch (a) { case b: switch (c) { default: } default: }",
            "SWITCH(NAME:4 CASE(NAME:5 SWITCH(NAME:6 DEFAULT)) DEFAULT)");
        Script.parses("switch (a) { case b ? c : d: }", "SWITCH(NAME:4 CASE(CONDITIONAL(NAME:5 NAME:6 NAME:7)))");
        Script.refuses("switch `{");
        Script.refuses("switch (`)");
        Script.refuses("switch (a) `;");
        Script.refuses("switch (a) {`");
        Script.refuses("switch (a) { `b }");
        Script.refuses("switch (a) { case `: }");
        Script.refuses("switch (a) { case b `; }");
        Script.refuses("switch (a) { case b:`");
        Script.refuses("switch (a) { default `a: }");
        Script.refuses("switch (a) { default: `\\case b: }");
        Script.refuses("switch (a) { `\\default: }");
        Script.refuses("switch (a) { default: case b: `default: }");
        Script.refuses("`case a:");
        Script.refuses("`default:");
    }

    private static void tries() {
        Script.parses("try {} catch (a) {}", "TRY(BLOCK CATCH:4(BLOCK))");
        Script.parses("try {} finally {}", "TRY(BLOCK FINALLY(BLOCK))");
        Script.parses("try { ; } catch (eval) { a } finally { b }",
            "TRY(BLOCK(EMPTY) CATCH(BLOCK(EXPRESSION(NAME:4))) FINALLY(BLOCK(EXPRESSION(NAME:5))))");
        Script.parses("try {} finally {} a", "TRY(BLOCK FINALLY(BLOCK)) EXPRESSION(NAME:4)");
        Script.refuses("try {}`");
        Script.refuses("try {} `a");
        Script.refuses("try {} `;");
        Script.refuses("try `a");
        Script.refuses("try `;");
        Script.refuses("try {} catch `{");
        Script.refuses("try {} catch (`)");
        Script.refuses("try {} catch (`1)");
        Script.refuses("try {} catch (`if)");
        Script.refuses("try {} catch (a`, b)");
        Script.refuses("try {} catch (a) `;");
        Script.refuses("try {} finally `;");
        Script.refuses("try {} finally {} `catch (a) {}");
        Script.refuses("try {} catch (a) {} `catch (b) {}");
        Script.refuses("try {} `\\catch (a) {}");
    }

    private static void functions() {
        Script.parses("function a() {}", "FUNCTION:4(BODY)");
        Script.parses("function eval(a, b, a) { c; }",
            "FUNCTION(PARAMETER:4 PARAMETER:5 PARAMETER:4 BODY(EXPRESSION(NAME:6)))");
        Script.parses("function a() {} function b() {}", "FUNCTION:4(BODY) FUNCTION:5(BODY)");
        Script.parses("function a() { function b() { function c() {} } ; }",
            "FUNCTION:4(BODY(FUNCTION:5(BODY(FUNCTION:6(BODY))) EMPTY))");
        Script.parses("function a() {} (b)", "FUNCTION:4(BODY) EXPRESSION(NAME:5)");
        Script.parses("{ (function () {}) }", "BLOCK(EXPRESSION(FUNCEXPR(BODY)))");
        Script.refuses("function `() {}");
        Script.refuses("function `if() {}");
        Script.refuses("function`");
        Script.refuses("function a`");
        Script.refuses("function a(`");
        Script.refuses("function a(b`");
        Script.refuses("function a(b,`) {}");
        Script.refuses("function a(`if) {}");
        Script.refuses("function a(`\\if) {}");
        Script.refuses("function a() `;");
        Script.refuses("function a() {`");
        Script.refuses("{ `function a() {} }");
        Script.refuses("if (a) `function a() {}");
        Script.refuses("if (a) ; else `function a() {}");
        Script.refuses("while (a) `function a() {}");
        Script.refuses("a: `function a() {}");
        Script.refuses("switch (a) { case b: `function a() {} }");
        Script.refuses("try { `function a() {} } finally {}");
        Script.refuses("function a() { { `function b() {} } }");
        Script.refuses("`\\function a() {}");
    }
}
