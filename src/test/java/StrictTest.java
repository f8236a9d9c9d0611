/** Promises 3 and 4: which code is strict, and what is refused in it. */
public final class StrictTest {
    private static final String STRICT = "\"use strict\";";

    private StrictTest() {
    }

    public static void main(String[] args) {
        programs();
        functionBodies();
        whatIsNoDirective();
        reservedWords();
        evalAndArguments();
        withAndDelete();
        parameters();
        properties();
        headsAheadOfTheDirective();
        whenTheDirectiveIsLookedAt();
        Check.end();
    }

    private static void programs() {
        Script.parsesStrict("\"use strict\"", "EXPRESSION(TEXT)");
        Script.parsesStrict("\"use strict\"; a", "EXPRESSION(TEXT) EXPRESSION(NAME:4)");
        Script.parsesStrict("\"use strict\"\na", "EXPRESSION(TEXT) EXPRESSION(NAME:4)");
        Script.parsesStrict("\"a\"; \"b\"\n\"use strict\"; \"c\"",
            "EXPRESSION(TEXT) EXPRESSION(TEXT:1) EXPRESSION(TEXT:2) EXPRESSION(TEXT:3)");
        Script.parsesStrict("\"use strict\"; \"use strict\"", "EXPRESSION(TEXT) EXPRESSION(TEXT:1)");
        Script.parsesStrict("\"use strict\"\n; a", "EXPRESSION(TEXT) EXPRESSION(NAME:4)");
        Script.parsesStrict("\"use strict\"; function f() {}", "EXPRESSION(TEXT) FUNCTION:9(BODY:1)");
    }

    private static void functionBodies() {
        Script.parses("function f() { \"use strict\" } function g() {}",
            "FUNCTION:9(BODY:1(EXPRESSION(TEXT))) FUNCTION:10(BODY)");
        Script.parses("function f() { \"a\"; \"use strict\"; }", "FUNCTION:9(BODY:1(EXPRESSION(TEXT) EXPRESSION(TEXT:1)))");
        Script.parses("a = function () { \"use strict\"; function g() { b } }",
            "EXPRESSION(ASSIGN(NAME:4 FUNCEXPR(BODY:1(EXPRESSION(TEXT) FUNCTION:10(BODY:1(EXPRESSION(NAME:5)))))))");
        Script.parses("({get a() { \"use strict\" }, set a(b) { }})",
            "EXPRESSION(OBJECT(GETTER:4(FUNCEXPR(BODY:1(EXPRESSION(TEXT)))) SETTER:4(FUNCEXPR(PARAMETER:5 BODY))))");
        Script.accepts("function f() { \"use strict\" } with (a) ;");
        Script.accepts("(function () { \"use strict\" }, eval = a)");
        Script.refuses("function f() { \"use strict\"; function g() { `with (a) ; } }");
        Script.refuses("function f() { \"use strict\"; (function () { `with (a) ; }) }");
        Script.refuses(STRICT + "function f() { `with (a) ; }");
        Script.refuses(STRICT + "({get a() { `with (a) ; }})");
    }

    private static void whatIsNoDirective() {
        Script.accepts("\"a\"; with (a) ;");
        Script.accepts("(\"use strict\"); with (a) ;");
        Script.accepts("\"use strict\" + 1; with (a) ;");
        Script.accepts("\"use strict\", 1; with (a) ;");
        Script.accepts("\"use strict\".a; with (a) ;");
        Script.accepts("\"use strict\"\n+ 1; with (a) ;");
        Script.accepts("a; \"use strict\"; with (a) ;");
        Script.accepts("; \"use strict\"; with (a) ;");
        Script.accepts("{ \"use strict\" } with (a) ;");
        Script.accepts("\"a\" + \"b\"; \"use strict\"; with (a) ;");
        Script.accepts("(\"a\"); \"use strict\"; with (a) ;");
        Script.accepts("function f() {} \"use strict\"; with (a) ;");
        Script.accepts("1; \"use strict\"; with (a) ;");
        Script.accepts("\"a\";; \"use strict\"; with (a) ;");
        Script.accepts("if (a) \"use strict\"; with (a) ;");
        Script.accepts("a: \"use strict\"; with (a) ;");
        Script.accepts("function f() { a; \"use strict\"; with (a) ; }");
        Script.accepts("function f(a, a) { (\"use strict\"); with (a) ; }");
    }

    private static void reservedWords() {
        String[] words = "implements interface let package private protected public static yield".split(" ");
        for (String word : words) {
            for (String name : new String[] {word, "\\" + word}) {
                Script.accepts("var " + name + "; " + name + " = a; a." + name + "; " + name + ": ;");
                Script.accepts("function " + name + "(" + name + ") { try {} catch (" + name + ") {} }");
                Script.refuses(STRICT + "`" + name);
                Script.refuses(STRICT + "a + `" + name);
                Script.refuses(STRICT + "var `" + name);
                Script.refuses(STRICT + "`" + name + ": ;");
                Script.refuses(STRICT + "function `" + name + "() {}");
                Script.refuses(STRICT + "function f(`" + name + ") {}");
                Script.refuses(STRICT + "(function `" + name + "() {})");
                Script.refuses(STRICT + "({set a(`" + name + ") {}})");
                Script.refuses(STRICT + "try {} catch (`" + name + ") {}");
                Script.refuses(STRICT + "while (a) break `" + name);
                Script.accepts(STRICT + "a." + name + "; ({" + name + ": 1}); ({get " + name + "() {}})");
                Script.refuses("function " + name + "() `{ \"use strict\" }");
                Script.refuses("function f(" + name + ") `{ \"use strict\" }");
                Script.refuses("(function " + name + "() `{ \"use strict\" })");
                Script.refuses("({set a(" + name + ") `{ \"use strict\" }})");
                Script.accepts("({get " + name + "() { \"use strict\" }})");
            }
        }
    }

    private static void evalAndArguments() {
        for (String name : new String[] {"eval", "arguments"}) {
            Script.refuses(STRICT + name + " `= a");
            Script.refuses(STRICT + "(" + name + ") `= a");
            Script.refuses(STRICT + name + " `+= a");
            Script.refuses(STRICT + name + " `++");
            Script.refuses(STRICT + "`-- " + name);
            Script.refuses(STRICT + "`++ (" + name + ") )");
            Script.refuses(STRICT + "for (" + name + " `in a) ;");
            Script.refuses(STRICT + "var `" + name);
            Script.refuses(STRICT + "for (var `" + name + " in a) ;");
            Script.refuses(STRICT + "function `" + name + "() {}");
            Script.refuses(STRICT + "function f(a, `" + name + ") {}");
            Script.refuses(STRICT + "(function `" + name + "() {})");
            Script.refuses(STRICT + "(function (`" + name + ") {})");
            Script.refuses(STRICT + "({set a(`" + name + ") {}})");
            Script.refuses(STRICT + "try {} catch (`" + name + ") {}");
            Script.accepts(STRICT + name + "; " + name + "(); " + name + ".a = 1; " + name + "[1] ++; a." + name + " = 1");
            Script.accepts(STRICT + name + ": while (a) break " + name);
            Script.accepts(STRICT + "({" + name + ": 1, get a() { }})");
            Script.accepts(name + " = 1; var " + name + "; function " + name + "(" + name + ") {} ++ " + name);
        }
    }

    private static void withAndDelete() {
        Script.refuses(STRICT + "`with (a) ;");
        Script.refuses(STRICT + "`with");
        Script.refuses(STRICT + "`delete a");
        Script.refuses(STRICT + "`delete ((a))");
        Script.refuses(STRICT + "`delete a )");
        Script.refuses(STRICT + "`delete eval");
        Script.refuses(STRICT + "- `delete a");
        Script.refuses(STRICT + "++ `delete a");
        Script.refuses(STRICT + "delete (`)");
        Script.accepts(STRICT + "delete a.b; delete a[b]; delete a(); delete 1; delete this; delete (a, b); delete - a");
        Script.accepts("delete a; delete (a)");
    }

    private static void parameters() {
        Script.accepts("function f(a, a) {}");
        Script.refuses(STRICT + "function f(a, `a) {}");
        Script.refuses(STRICT + "function f(a, b, c, `b) {}");
        Script.refuses(STRICT + "(function (a, `a");
        Script.accepts(STRICT + "function f(a, b) { function g(a, b) {} }");
        Script.accepts(STRICT + "function a(a) {}");
        Script.accepts("function f(a, b) { \"use strict\" }");
    }

    private static void properties() {
        Script.refuses(STRICT + "({a: 1, `a: 2})");
        Script.refuses(STRICT + "({a: 1, b: 2, `\"a\": 3})");
        Script.refuses(STRICT + "({1: 1, `\"1\": 3})");
        Script.refuses(STRICT + "({a: 1, a`})");
        Script.refuses(STRICT + "({a: 1, a`");
        Script.refuses("function f() { \"use strict\"; ({a: 1, `a: 2}) }");
        Script.accepts(STRICT + "({a: 1, b: {a: 2}})");
        Script.accepts(STRICT + "({get a() {}, set a(b) {}})");
    }

    private static void headsAheadOfTheDirective() {
        for (String name : new String[] {"eval", "arguments"}) {
            Script.refuses("function " + name + "() `{ \"use strict\" }");
            Script.refuses("function f(" + name + ") `{ \"use strict\" }");
            Script.refuses("function f(a, " + name + ") `{ \"a\"; \"use strict\"; a }");
            Script.refuses("(function " + name + "() `{ \"use strict\" })");
            Script.refuses("(function (" + name + ") `{ \"use strict\" })");
            Script.refuses("({set a(" + name + ") `{ \"use strict\" }})");
            Script.accepts("({get " + name + "() { \"use strict\" }})");
        }
        Script.refuses("function f(a, a) `{ \"use strict\" }");
        Script.refuses("function f(a, b, c, b) `{ \"use strict\" }");
        Script.refuses("(function (a, a) `{ \"a\"\n\"use strict\" })");
        Script.accepts("(function (b) { \"use strict\" })");
        Script.accepts("function eval(a, a) { function g() { \"use strict\" } }");
        Script.refuses("function f(a, a) { function g(b, b) `{ \"use strict\" } }");
    }

    private static void whenTheDirectiveIsLookedAt() {
        Script.refuses("function f(a, a) `{ \"use strict\"; ) }");
        Script.refuses("function f(a, a) `{ \"use strict\"; with");
        Script.refuses("function f(a, a) `{ \"use strict\"");
        Script.refuses("function f(a, a) `{ \"use strict\"\n)");
        Script.refuses("function f(a, a) { \"use strict\" `)");
        Script.refuses("function f(a, a) { \"use strict\" `= 1");
        Script.refuses("function f(a, a) { \"use strict\" +`");
        Script.refuses("\"use strict\"\n`with (a) ;");
        Script.refuses("\"use strict\"\n`let");
        Script.refuses("\"a\"; \"use strict\"; `let");
    }
}
