/** Promise 3: semicolons are put in where the standard does. */
public final class SemicolonTest {
    private SemicolonTest() {
    }

    public static void main(String[] args) {
        whereEveryStatementEnds();
        wherePutInIsNothing();
        atLines();
        atBraces();
        atTheEnd();
        onlyBeforeWhatNoRuleAllows();
        neverAsEmptyStatement();
        neverInTheHeadOfFor();
        behindRestrictedWords();
        beforeIncreases();
        behindDo();
        Check.end();
    }

    /** Each statement that ends with a semicolon: with it, without it at a line or }, and without both. */
    private static void whereEveryStatementEnds() {
        String[] statements = {
            "a", "a = b", "a ++", "var b", "var b = c", "do ; while (a)", "continue", "break", "continue x", "break x",
            "return", "return a", "throw a", "debugger", "\"a\"", "@", "(a)", "a = function () {}", "new a", "this"
        };
        for (String s : statements) {
            String ahead = "function f() { x: while (y) { " + s;
            Script.accepts(ahead + "; } }");
            Script.accepts(ahead + "\n; } }");
            Script.accepts(ahead + " } }");
            Script.accepts(ahead + "\n} }");
            Script.accepts(ahead + "\nvar z } }");
            Script.accepts(ahead + "; var z } }");
            Script.refuses(ahead + " `var z } }");
            Script.refuses(ahead + " `) } }");
            Script.refuses(ahead + "\n`) } }");
            Script.refuses(ahead + " `else } }");
            Script.refuses(ahead + "\n`else } }");
            Script.refuses(ahead + "`");
            Script.refuses(ahead + ";`");
        }
        String[] programs = {"a", "a = b", "a ++", "var b", "var b = c", "do ; while (a)", "throw a", "debugger", "\"a\""};
        for (String s : programs) {
            Script.accepts(s);
            Script.accepts(s + ";");
            Script.accepts(s + "\n" + s);
            Script.refuses(s + " `var z");
            Script.refuses(s + "`}");
            Script.refuses(s + "\n`}");
        }
    }

    /** A statement that no semicolon ends takes none in, and one that stands there is an EMPTY. */
    private static void wherePutInIsNothing() {
        Script.parses("{} a", "BLOCK EXPRESSION(NAME:4)");
        Script.parses("{};", "BLOCK EMPTY");
        Script.parses("if (a) {} b", "IF(NAME:4 BLOCK) EXPRESSION(NAME:5)");
        Script.parses("if (a) {} else {} b", "IF(NAME:4 BLOCK BLOCK) EXPRESSION(NAME:5)");
        Script.refuses("if (a) {}; `else b");
        Script.parses("while (a) {} b", "WHILE(NAME:4 BLOCK) EXPRESSION(NAME:5)");
        Script.parses("for (;;) {};", "FOR(NONE NONE NONE BLOCK) EMPTY");
        Script.parses("switch (a) {} b", "SWITCH(NAME:4) EXPRESSION(NAME:5)");
        Script.parses("try {} finally {};", "TRY(BLOCK FINALLY(BLOCK)) EMPTY");
        Script.parses("function f() {};", "FUNCTION:9(BODY) EMPTY");
        Script.parses("a;;", "EXPRESSION(NAME:4) EMPTY");
        Script.parses("a\n;;", "EXPRESSION(NAME:4) EMPTY");
        Script.parses("a\n;\n;", "EXPRESSION(NAME:4) EMPTY");
        Script.parses("\n\n", "");
    }

    private static void atLines() {
        Script.parses("a\nb", "EXPRESSION(NAME:4) EXPRESSION(NAME:5)");
        Script.parses("var a\nvar b = 1\nc", "VAR(DECLARATION:4) VAR(DECLARATION:5(NUMBER)) EXPRESSION(NAME:6)");
        Script.parses("debugger\na", "DEBUGGER EXPRESSION(NAME:4)");
        Script.parses("throw a\nb", "THROW(NAME:4) EXPRESSION(NAME:5)");
        Script.parses("if (a) b\nelse c", "IF(NAME:4 EXPRESSION(NAME:5) EXPRESSION(NAME:6))");
        Script.parses("do a\nwhile (b)", "DO(EXPRESSION(NAME:4) NAME:5)");
        Script.parses("a\nif (b) c", "EXPRESSION(NAME:4) IF(NAME:5 EXPRESSION(NAME:6))");
        Script.parses("a = b\n{}", "EXPRESSION(ASSIGN(NAME:4 NAME:5)) BLOCK");
        Script.parses("a\n! b", "EXPRESSION(NAME:4) EXPRESSION(PREFIX:8(NAME:5))");
        Script.parses("a\n@", "EXPRESSION(NAME:4) EXPRESSION(PATTERN)");
        Script.parses("a\n;", "EXPRESSION(NAME:4)");
        Script.refuses("a `b");
        Script.refuses("a `1");
        Script.refuses("a `{}");
        Script.refuses("a `! b");
        Script.refuses("a `@");
        Script.refuses("var a `var b");
        Script.refuses("throw a `b");
        Script.refuses("a\n`)");
        Script.refuses("(a\n`b)");
        Script.refuses("a[b\n`c]");
        Script.refuses("a(b\n`c)");
        Script.refuses("a ? b\n`c");
        Script.refuses("a ? b\n`, c : d");
        Script.refuses("a\n`else");
        Script.refuses("if (a) b; c\n`else d");
    }

    private static void atBraces() {
        Script.parses("{a}", "BLOCK(EXPRESSION(NAME:4))");
        Script.parses("{var a}", "BLOCK(VAR(DECLARATION:4))");
        Script.parses("{1\n2} 3", "BLOCK(EXPRESSION(NUMBER) EXPRESSION(NUMBER:1)) EXPRESSION(NUMBER:2)");
        Script.parses("{debugger} a", "BLOCK(DEBUGGER) EXPRESSION(NAME:4)");
        Script.parses("{throw a}", "BLOCK(THROW(NAME:4))");
        Script.parses("{do ; while (a)}", "BLOCK(DO(EMPTY NAME:4))");
        Script.parses("a: {break a}", "LABELLED:4(BLOCK(BREAK:5))");
        Script.parses("while (a) {continue} b", "WHILE(NAME:4 BLOCK(CONTINUE)) EXPRESSION(NAME:5)");
        Script.parses("function f() {return} a", "FUNCTION:9(BODY(RETURN)) EXPRESSION(NAME:4)");
        Script.parses("switch (a) {case b: c}", "SWITCH(NAME:4 CASE(NAME:5 EXPRESSION(NAME:6)))");
        Script.refuses("{1 `2} 3");
        Script.refuses("{a +`}");
        Script.refuses("{var`}");
        Script.refuses("{throw`}");
        Script.refuses("(a`}");
    }

    private static void atTheEnd() {
        Script.accepts("a");
        Script.accepts("a = b + c");
        Script.accepts("var a");
        Script.accepts("do ; while (a)");
        Script.accepts("debugger");
        Script.accepts("a: while (b) break a");
        Script.refuses("a +`");
        Script.refuses("a = (b + c`");
        Script.refuses("{a`");
    }

    private static void onlyBeforeWhatNoRuleAllows() {
        Script.parses("a\n(b)", "EXPRESSION(CALL(NAME:4 NAME:5))");
        Script.parses("a\n[b]", "EXPRESSION(INDEX(NAME:4 NAME:5))");
        Script.parses("a\n.b", "EXPRESSION(MEMBER:5(NAME:4))");
        Script.parses("a = b + c\n(d + e).f()",
            "EXPRESSION(ASSIGN(NAME:4 BINARY:19(NAME:5 CALL(MEMBER:9(CALL(NAME:6 BINARY:19(NAME:7 NAME:8)))))))");
        Script.parses("a\n+ b", "EXPRESSION(BINARY:19(NAME:4 NAME:5))");
        Script.parses("a\n/ b", "EXPRESSION(BINARY:22(NAME:4 NAME:5))");
        Script.parses("a\n, b", "EXPRESSION(COMMA(NAME:4 NAME:5))");
        Script.parses("a\nin\nb", "EXPRESSION(BINARY:15(NAME:4 NAME:5))");
        Script.parses("a\n= b", "EXPRESSION(ASSIGN(NAME:4 NAME:5))");
        Script.parses("a\n: b", "LABELLED:4(EXPRESSION(NAME:5))");
        Script.parses("var\na\n= b\n, c", "VAR(DECLARATION:4(NAME:5) DECLARATION:6)");
        Script.parses("new a\n(b)", "EXPRESSION(NEW(NAME:4 NAME:5))");
        Script.parses("a ?\nb\n:\nc", "EXPRESSION(CONDITIONAL(NAME:4 NAME:5 NAME:6))");
        Script.refuses("a\n/ `");
        Script.refuses("a + b\n`= c");
        Script.refuses("1\n`= c");
    }

    private static void neverAsEmptyStatement() {
        Script.refuses("if (a)`");
        Script.refuses("if (a)\n`else b");
        Script.refuses("{ if (a) `}");
        Script.refuses("{ while (a) `}");
        Script.refuses("{ for (;;)\n`}");
        Script.refuses("do\nwhile (a)`");
        Script.refuses("{ a: `}");
        Script.refuses("with (a)\n`");
        String[] heads = {
            "if (a)", "if (a) ; else", "while (a)", "for (;;)", "for (a in b)", "for (var a in b)", "with (a)", "x:", "do"
        };
        for (String head : heads) {
            Script.refuses(head + "`");
            Script.refuses("{ " + head + "`}");
            Script.refuses("{ " + head + "\n`}");
            Script.refuses(head + "\n`else");
            Script.refuses("switch (a) { case b: " + head + "\n`case c: }");
        }
        Script.parses("while (a)\nb", "WHILE(NAME:4 EXPRESSION(NAME:5))");
        Script.parses("if (a)\n; else\nb", "IF(NAME:4 EMPTY EXPRESSION(NAME:5))");
    }

    private static void neverInTheHeadOfFor() {
        Script.refuses("for (a; b\n`) c");
        Script.refuses("for (a\n`b; c) ;");
        Script.refuses("for (\n`) ;");
        Script.refuses("for (a\n`");
        Script.refuses("for (var a\n`b;;) ;");
        Script.refuses("for (a; b\n`c) ;");
        Script.refuses("for (a\n`b\n) ;");
        Script.refuses("for (;\n`) ;");
        Script.refuses("for (;;\n`");
        Script.refuses("for (var a = b\n`c;;) ;");
        Script.refuses("for (a in b\n`c) ;");
        Script.parses("for (a = function () { b\nc };;) d",
            "FOR(ASSIGN(NAME:4 FUNCEXPR(BODY(EXPRESSION(NAME:5) EXPRESSION(NAME:6)))) NONE NONE EXPRESSION(NAME:7))");
        Script.parses("for (a\n;\nb\n;\nc\n)\nd", "FOR(NAME:4 NAME:5 NAME:6 EXPRESSION(NAME:7))");
    }

    private static void behindRestrictedWords() {
        Script.parses("a: while (b) break\na", "LABELLED:4(WHILE(NAME:5 BREAK)) EXPRESSION(NAME:4)");
        Script.parses("a: while (b) continue\na", "LABELLED:4(WHILE(NAME:5 CONTINUE)) EXPRESSION(NAME:4)");
        Script.parses("a: while (b) { break\na; }", "LABELLED:4(WHILE(NAME:5 BLOCK(BREAK EXPRESSION(NAME:4))))");
        Script.parses("function f() { return\na + b }", "FUNCTION:9(BODY(RETURN EXPRESSION(BINARY:19(NAME:4 NAME:5))))");
        Script.parses("function f() { return\n(a) }", "FUNCTION:9(BODY(RETURN EXPRESSION(NAME:4)))");
        Script.parses("function f() { return\n; }", "FUNCTION:9(BODY(RETURN))");
        Script.parses("while (a) break\n;", "WHILE(NAME:4 BREAK)");
        Script.parses("a: while (b) break a\nc", "LABELLED:4(WHILE(NAME:5 BREAK:5)) EXPRESSION(NAME:6)");
        Script.refuses("throw\n`a");
        Script.refuses("throw\n`;");
        Script.refuses("function f() { return\n+ `");
        Script.refuses("function f() { return\n`* a }");
        Script.refuses("a: {`break\na }");
    }

    private static void beforeIncreases() {
        Script.parses("a\n++ b", "EXPRESSION(NAME:4) EXPRESSION(PREFIX:3(NAME:5))");
        Script.parses("a\n++\nb", "EXPRESSION(NAME:4) EXPRESSION(PREFIX:3(NAME:5))");
        Script.parses("a\n--\nb", "EXPRESSION(NAME:4) EXPRESSION(PREFIX:4(NAME:5))");
        Script.parses("a ++\nb", "EXPRESSION(POSTFIX:3(NAME:4)) EXPRESSION(NAME:5)");
        Script.parses("a ++\n++ b", "EXPRESSION(POSTFIX:3(NAME:4)) EXPRESSION(PREFIX:3(NAME:5))");
        Script.parses("1\n++ b", "EXPRESSION(NUMBER) EXPRESSION(PREFIX:3(NAME:5))");
        Script.parses("var a = b\n++ c", "VAR(DECLARATION:4(NAME:5)) EXPRESSION(PREFIX:3(NAME:6))");
        Script.parses("if (a)\n++ b", "IF(NAME:4 EXPRESSION(PREFIX:3(NAME:5)))");
        Script.parses("a = b +\n++ c", "EXPRESSION(ASSIGN(NAME:4 BINARY:19(NAME:5 PREFIX:3(NAME:6))))");
        Script.parses("a +\n++\nb", "EXPRESSION(BINARY:19(NAME:4 PREFIX:3(NAME:5)))");
        Script.refuses("a\n++`");
        Script.refuses("(a\n`++)");
        Script.refuses("(a\n`++ b)");
        Script.refuses("if (a\n`++) b");
        Script.refuses("for (a;;b\n`++) ;");
        Script.refuses("a ++ `b");
    }

    private static void behindDo() {
        Script.parses("do ; while (a)\nb", "DO(EMPTY NAME:4) EXPRESSION(NAME:5)");
        Script.parses("do ; while (a);;", "DO(EMPTY NAME:4) EMPTY");
        Script.parses("do ; while (a)\n;", "DO(EMPTY NAME:4)");
        Script.parses("if (a) do ; while (b)\nelse ;", "IF(NAME:4 DO(EMPTY NAME:5) EMPTY)");
        Script.parses("do ; while (a)\n(b)", "DO(EMPTY NAME:4) EXPRESSION(NAME:5)");
        Script.refuses("do ; while (a) `b");
        Script.refuses("do ; while (a) `(b)");
        Script.refuses("do ; while (a) `{}");
        Script.refuses("if (a) do ; while (b) `else ;");
    }
}
