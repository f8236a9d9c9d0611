/** Promise 3: the trees of expressions. */
public final class ExpressionTest {
    private ExpressionTest() {
    }

    public static void main(String[] args) {
        leaves();
        literalsAreNumbered();
        arrays();
        objects();
        functions();
        membersAndCalls();
        constructions();
        prefixesAndPostfixes();
        everyBinaryOperator();
        ranks();
        conditionalsAndAssignments();
        commasAndBrackets();
        wordsAsNames();
        Check.end();
    }

    private static void leaves() {
        Script.means("this", "THIS");
        Script.means("a", "NAME:4");
        Script.means("eval", "NAME");
        Script.means("1", "NUMBER");
        Script.means("\"a\"", "TEXT");
        Script.means("@", "PATTERN");
        Script.means("true", "TRUE");
        Script.means("false", "FALSE");
        Script.means("null", "NULL");
    }

    private static void literalsAreNumbered() {
        Script.means("[1, \"a\", @, 1, a, true, \"a\"]",
            "ARRAY(NUMBER TEXT:1 PATTERN:2 NUMBER:3 NAME:4 TRUE TEXT:4)");
        Script.parses("\"a\"; 1; function f() { 2 }; 3",
            "EXPRESSION(TEXT) EXPRESSION(NUMBER:1) FUNCTION:9(BODY(EXPRESSION(NUMBER:2))) EMPTY EXPRESSION(NUMBER:3)");
        Script.means("(1) * (2 + 3)", "BINARY:21(NUMBER BINARY:19(NUMBER:1 NUMBER:2))");
        Script.means("({a: 1, \"b\": 2, get c() { 3 }})",
            "OBJECT(DATA:4(NUMBER) DATA:5(NUMBER:1) GETTER:6(FUNCEXPR(BODY(EXPRESSION(NUMBER:2)))))");
    }

    private static void arrays() {
        Script.means("[]", "ARRAY");
        Script.means("[a]", "ARRAY(NAME:4)");
        Script.means("[a, ]", "ARRAY(NAME:4)");
        Script.means("[ , ]", "ARRAY(NONE)");
        Script.means("[ , , ]", "ARRAY(NONE NONE)");
        Script.means("[a, , b]", "ARRAY(NAME:4 NONE NAME:5)");
        Script.means("[a, , ]", "ARRAY(NAME:4 NONE)");
        Script.means("[, a]", "ARRAY(NONE NAME:4)");
        Script.means("[(a, b), c = d]", "ARRAY(COMMA(NAME:4 NAME:5) ASSIGN(NAME:6 NAME:7))");
        Script.refuses("[a `b]");
        Script.refuses("[a, `)");
        Script.refuses("[a`");
        Script.refuses("[a, `; ]");
    }

    private static void objects() {
        Script.means("({})", "OBJECT");
        Script.means("({a: b})", "OBJECT(DATA:4(NAME:5))");
        Script.means("({a: b, })", "OBJECT(DATA:4(NAME:5))");
        Script.means("({a: b = c, d: e})", "OBJECT(DATA:4(ASSIGN(NAME:5 NAME:6)) DATA:7(NAME:8))");
        Script.means("({\"a\": b, 1: c})", "OBJECT(DATA:4(NAME:5) DATA:100(NAME:6))");
        Script.means("({if: a, \\var: b, class: c})", "OBJECT(DATA:100(NAME:4) DATA:101(NAME:5) DATA:102(NAME:6))");
        Script.means("({get: a, set: b})", "OBJECT(DATA:2(NAME:4) DATA:3(NAME:5))");
        Script.means("({get a() {}, set a(b) {}})",
            "OBJECT(GETTER:4(FUNCEXPR(BODY)) SETTER:4(FUNCEXPR(PARAMETER:5 BODY)))");
        Script.means("({get get() {}, set set(b) {}})",
            "OBJECT(GETTER:2(FUNCEXPR(BODY)) SETTER:3(FUNCEXPR(PARAMETER:5 BODY)))");
        Script.means("({get \"a\"() {}, set 1(b) {}, get if() {}})",
            "OBJECT(GETTER:4(FUNCEXPR(BODY)) SETTER:100(FUNCEXPR(PARAMETER:5 BODY)) GETTER:101(FUNCEXPR(BODY)))");
        Script.means("({a: 1, a: 2})", "OBJECT(DATA:4(NUMBER) DATA:4(NUMBER:1))");
        Script.refuses("({`,})");
        Script.refuses("({a: b,`,})");
        Script.refuses("({a`})");
        Script.refuses("({a`, b: c})");
        Script.refuses("({a: `})");
        Script.refuses("({a: b `c: d})");
        Script.refuses("({a: b, c: d`");
        Script.refuses("({`@: b})");
        Script.refuses("({`(a): b})");
        Script.refuses("({\"get\" `a() {}})");
        Script.refuses("({get`() {}})");
        Script.refuses("({get `@() {}})");
        Script.refuses("({a`() {}})");
    }

    private static void functions() {
        Script.means("(function () {})", "FUNCEXPR(BODY)");
        Script.means("(function a() {})", "FUNCEXPR:5(BODY)");
        Script.means("(function eval(a, b) { return a })",
            "FUNCEXPR:1(PARAMETER:4 PARAMETER:5 BODY(RETURN(NAME:4)))");
        Script.means("(function (a, a) {})", "FUNCEXPR(PARAMETER:4 PARAMETER:4 BODY)");
        Script.means("a = function () { function b() {} }",
            "ASSIGN(NAME:4 FUNCEXPR(BODY(FUNCTION:5(BODY))))");
        Script.means("(function () {}())", "CALL(FUNCEXPR(BODY))");
        Script.refuses("(function a`");
        Script.refuses("(function (a,`) {})");
        Script.refuses("(function (`1) {})");
        Script.refuses("(function (a `b) {})");
        Script.refuses("(function () `a)");
        Script.refuses("(function () { a `)");
        Script.refuses("(function `if() {})");
        Script.refuses("(function `1() {})");
    }

    private static void membersAndCalls() {
        Script.means("a.b.c", "MEMBER:6(MEMBER:5(NAME:4))");
        Script.means("a.if", "MEMBER:100(NAME:4)");
        Script.means("a.\\if", "MEMBER:100(NAME:4)");
        Script.means("a[b, c]", "INDEX(NAME:4 COMMA(NAME:5 NAME:6))");
        Script.means("a()", "CALL(NAME:4)");
        Script.means("a(b, c = d)", "CALL(NAME:4 NAME:5 ASSIGN(NAME:6 NAME:7))");
        Script.means("a()()[b].c()", "CALL(MEMBER:6(INDEX(CALL(CALL(NAME:4)) NAME:5)))");
        Script.means("1 .a", "MEMBER:4(NUMBER)");
        Script.means("\"b\".a", "MEMBER:4(TEXT)");
        Script.means("@.a", "MEMBER:4(PATTERN)");
        Script.means("[].a", "MEMBER:4(ARRAY)");
        Script.refuses("a.`1");
        Script.refuses("a.`\"b\"");
        Script.refuses("a.`");
        Script.refuses("a[`]");
        Script.refuses("a[b`)");
        Script.refuses("a(b,`)");
        Script.refuses("a(`,)");
        Script.refuses("a(b `c)");
        Script.refuses("a(b`");
    }

    private static void constructions() {
        Script.means("new a", "NEW(NAME:4)");
        Script.means("new a()", "NEW(NAME:4)");
        Script.means("new a(b, c)", "NEW(NAME:4 NAME:5 NAME:6)");
        Script.means("new a.b[c](d)", "NEW(INDEX(MEMBER:5(NAME:4) NAME:6) NAME:7)");
        Script.means("new a().b", "MEMBER:5(NEW(NAME:4))");
        Script.means("new a()()", "CALL(NEW(NAME:4))");
        Script.means("new new a", "NEW(NEW(NAME:4))");
        Script.means("new new a(b)", "NEW(NEW(NAME:4 NAME:5))");
        Script.means("new new a(b).c(d)", "NEW(MEMBER:6(NEW(NAME:4 NAME:5)) NAME:7)");
        Script.means("new (a())()", "NEW(CALL(NAME:4))");
        Script.means("new (a().b)", "NEW(MEMBER:5(CALL(NAME:4)))");
        Script.means("new function () {}(a)", "NEW(FUNCEXPR(BODY) NAME:4)");
        Script.means("new a(b in c)", "NEW(NAME:4 BINARY:15(NAME:5 NAME:6))");
        Script.means("new this", "NEW(THIS)");
        Script.means("new {}", "NEW(OBJECT)");
        Script.means("new [a]", "NEW(ARRAY(NAME:4))");
        Script.means("new a + b", "BINARY:19(NEW(NAME:4) NAME:5)");
        Script.means("- new a", "PREFIX:6(NEW(NAME:4))");
        Script.refuses("new `- a");
        Script.refuses("new `++ a");
        Script.refuses("new `typeof a");
        Script.refuses("new`");
        Script.refuses("new a(b`");
        Script.refuses("new a`++");
    }

    private static void prefixesAndPostfixes() {
        Script.means("delete a.b", "PREFIX(MEMBER:5(NAME:4))");
        Script.means("delete a", "PREFIX(NAME:4)");
        Script.means("delete 1", "PREFIX(NUMBER)");
        Script.means("void a", "PREFIX:1(NAME:4)");
        Script.means("typeof a", "PREFIX:2(NAME:4)");
        Script.means("++ a", "PREFIX:3(NAME:4)");
        Script.means("-- a[b]", "PREFIX:4(INDEX(NAME:4 NAME:5))");
        Script.means("+ a", "PREFIX:5(NAME:4)");
        Script.means("- a", "PREFIX:6(NAME:4)");
        Script.means("~ a", "PREFIX:7(NAME:4)");
        Script.means("! a", "PREFIX:8(NAME:4)");
        Script.means("a ++", "POSTFIX:3(NAME:4)");
        Script.means("a.b --", "POSTFIX:4(MEMBER:5(NAME:4))");
        Script.means("- - a", "PREFIX:6(PREFIX:6(NAME:4))");
        Script.means("- a ++", "PREFIX:6(POSTFIX:3(NAME:4))");
        Script.means("- a.b()", "PREFIX:6(CALL(MEMBER:5(NAME:4)))");
        Script.means("- a * b", "BINARY:21(PREFIX:6(NAME:4) NAME:5)");
        Script.means("a * - b", "BINARY:21(NAME:4 PREFIX:6(NAME:5))");
        Script.means("a ++ + ++ b", "BINARY:19(POSTFIX:3(NAME:4) PREFIX:3(NAME:5))");
        Script.means("a - - b", "BINARY:20(NAME:4 PREFIX:6(NAME:5))");
        Script.means("! a instanceof b", "BINARY:14(PREFIX:8(NAME:4) NAME:5)");
        Script.refuses("a ++ `++");
        Script.refuses("a ++ `.b");
        Script.refuses("a ++ `(b)");
        Script.refuses("-`");
        Script.refuses("`* a");
        Script.refuses("`/ a");
        Script.refuses("`/= a");
    }

    private static void everyBinaryOperator() {
        String[] operators = ("|| && | ^ & == != === !== < > <= >= instanceof in << >> >>> + - * / %").split(" ");
        for (int i = 0; i < operators.length; i++) {
            String made = "BINARY:" + (i + 1);
            Script.means("a " + operators[i] + " b", made + "(NAME:4 NAME:5)");
            Script.means("- a " + operators[i] + " - b()", made + "(PREFIX:6(NAME:4) PREFIX:6(CALL(NAME:5)))");
            Script.means("a() " + operators[i] + " b.c ++", made + "(CALL(NAME:4) POSTFIX:3(MEMBER:6(NAME:5)))");
            Script.means("a ++ " + operators[i] + " new b(c)", made + "(POSTFIX:3(NAME:4) NEW(NAME:5 NAME:6))");
            Script.means("a " + operators[i] + " (b, c)", made + "(NAME:4 COMMA(NAME:5 NAME:6))");
            Script.means("a " + operators[i] + " b ? c : d", "CONDITIONAL(" + made + "(NAME:4 NAME:5) NAME:6 NAME:7)");
            Script.means("a = b " + operators[i] + " c", "ASSIGN(NAME:4 " + made + "(NAME:5 NAME:6))");
            Script.means("a, b " + operators[i] + " c", "COMMA(NAME:4 " + made + "(NAME:5 NAME:6))");
            Script.refuses("a " + operators[i] + "`");
            Script.refuses("a " + operators[i] + " `;");
        }
    }

    private static void ranks() {
        int[][] ranks = {{1}, {2}, {3}, {4}, {5}, {6, 7, 8, 9}, {10, 11, 12, 13, 14, 15}, {16, 17, 18}, {19, 20}, {21, 22, 23}};
        String[] operators = ("|| && | ^ & == != === !== < > <= >= instanceof in << >> >>> + - * / %").split(" ");
        for (int i = 0; i < ranks.length; i++) {
            for (int j = 0; j < ranks.length; j++) {
                for (int first : ranks[i]) {
                    for (int second : ranks[j]) {
                        String text = "a " + operators[first - 1] + " b " + operators[second - 1] + " c";
                        String left = "BINARY:" + second + "(BINARY:" + first + "(NAME:4 NAME:5) NAME:6)";
                        String right = "BINARY:" + first + "(NAME:4 BINARY:" + second + "(NAME:5 NAME:6))";
                        Script.means(text, i >= j ? left : right);
                    }
                }
            }
        }
        Script.means("a || b && c == d < e + f * g",
            "BINARY:1(NAME:4 BINARY:2(NAME:5 BINARY:6(NAME:6 BINARY:10(NAME:7 BINARY:19(NAME:8 BINARY:21(NAME:9 NAME:10))))))");
        Script.means("a * b + c < d == e && f || g",
            "BINARY:1(BINARY:2(BINARY:6(BINARY:10(BINARY:19(BINARY:21(NAME:4 NAME:5) NAME:6) NAME:7) NAME:8) NAME:9) NAME:10)");
    }

    private static void conditionalsAndAssignments() {
        Script.means("a ? b : c", "CONDITIONAL(NAME:4 NAME:5 NAME:6)");
        Script.means("a ? b : c ? d : e", "CONDITIONAL(NAME:4 NAME:5 CONDITIONAL(NAME:6 NAME:7 NAME:8))");
        Script.means("a ? b ? c : d : e", "CONDITIONAL(NAME:4 CONDITIONAL(NAME:5 NAME:6 NAME:7) NAME:8)");
        Script.means("a ? b = c : d = e", "CONDITIONAL(NAME:4 ASSIGN(NAME:5 NAME:6) ASSIGN(NAME:7 NAME:8))");
        Script.means("a || b ? c : d || e",
            "CONDITIONAL(BINARY:1(NAME:4 NAME:5) NAME:6 BINARY:1(NAME:7 NAME:8))");
        Script.means("a = b in c", "ASSIGN(NAME:4 BINARY:15(NAME:5 NAME:6))");
        Script.means("a ? b in c : d in e",
            "CONDITIONAL(NAME:4 BINARY:15(NAME:5 NAME:6) BINARY:15(NAME:7 NAME:8))");
        Script.means("a, b in c", "COMMA(NAME:4 BINARY:15(NAME:5 NAME:6))");
        Script.means("a = b ? c : d", "ASSIGN(NAME:4 CONDITIONAL(NAME:5 NAME:6 NAME:7))");
        Script.means("a ? b : c, d", "COMMA(CONDITIONAL(NAME:4 NAME:5 NAME:6) NAME:7)");
        Script.means("a = b = c", "ASSIGN(NAME:4 ASSIGN(NAME:5 NAME:6))");
        Script.means("a.b = c", "ASSIGN(MEMBER:5(NAME:4) NAME:6)");
        Script.means("a().b[c] = d", "ASSIGN(INDEX(MEMBER:5(CALL(NAME:4)) NAME:6) NAME:7)");
        String[] operators = "| ^ & << >> >>> + - * / %".split(" ");
        int[] values = {3, 4, 5, 16, 17, 18, 19, 20, 21, 22, 23};
        for (int i = 0; i < operators.length; i++) {
            Script.means("a " + operators[i] + "= b", "ASSIGN:" + values[i] + "(NAME:4 NAME:5)");
            Script.refuses("a " + operators[i] + "=`");
            Script.refuses("1 `" + operators[i] + "= b");
        }
        Script.refuses("a ? b `, c : d");
        Script.refuses("a ? b`");
        Script.refuses("a ? b `;");
        Script.refuses("a ? b :`");
        Script.refuses("a ? `: b");
        Script.refuses("a = `, b");
    }

    private static void commasAndBrackets() {
        Script.means("a, b", "COMMA(NAME:4 NAME:5)");
        Script.means("a, b, c", "COMMA(COMMA(NAME:4 NAME:5) NAME:6)");
        Script.means("a, (b, c)", "COMMA(NAME:4 COMMA(NAME:5 NAME:6))");
        Script.means("a = b, c", "COMMA(ASSIGN(NAME:4 NAME:5) NAME:6)");
        Script.means("((a))", "NAME:4");
        Script.means("(a + b) * c", "BINARY:21(BINARY:19(NAME:4 NAME:5) NAME:6)");
        Script.means("a - (b - c)", "BINARY:20(NAME:4 BINARY:20(NAME:5 NAME:6))");
        Script.means("(a ? b : c).d", "MEMBER:7(CONDITIONAL(NAME:4 NAME:5 NAME:6))");
        Script.means("(a) = b", "ASSIGN(NAME:4 NAME:5)");
        Script.means("((a.b)) ++", "POSTFIX:3(MEMBER:5(NAME:4))");
        Script.means("-- (a)", "PREFIX:4(NAME:4)");
        Script.refuses("(`)");
        Script.refuses("(a`");
        Script.refuses("(a`]");
        Script.refuses("(a,`)");
        Script.refuses("(a`; b)");
        Script.refuses("a`)");
        Script.refuses("a,`");
    }

    private static void wordsAsNames() {
        Script.means("let", "NAME:100");
        Script.means("\\yield", "NAME:100");
        Script.means("get + set", "BINARY:19(NAME:2 NAME:3)");
        String[] reserved = "case catch default else finally in instanceof class const enum export extends import super".split(" ");
        for (String word : reserved) {
            Script.refuses("`" + word);
            Script.refuses("a = `" + word);
            Script.refuses("a + `\\" + word);
        }
        Script.refuses("`\\break");
        Script.refuses("`\\super");
        Script.refuses("`\\this");
        Script.refuses("`\\true");
        Script.refuses("`\\if (a) b");
        Script.refuses("a `\\in b");
        Script.refuses("a `\\instanceof b");
        Script.refuses("`\\typeof a");
    }
}
