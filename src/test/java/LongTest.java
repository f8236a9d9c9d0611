/**
 * Terms and promise 3: what the language lets come many times may come as many times as 512 calls can
 * tell, and each of them is a child of its own. (The questions about all nodes go beyond the 512 calls.)
 */
public final class LongTest {
    private static final int MOST_TOKENS = 480;

    private LongTest() {
    }

    public static void main(String[] args) {
        statements();
        lists();
        chains();
        nested();
        refusedAtTheLast();
        Check.end();
    }

    private static void statements() {
        follow("#", "a;", "#", "EXPRESSION(NAME:4)");
        follow("#", ";", "#", "EMPTY");
        follow("#", "function a() {}", "#", "FUNCTION:4(BODY)");
        follow("{ # }", "a;", "BLOCK(#)", "EXPRESSION(NAME:4)");
        follow("function f() { # }", "a;", "FUNCTION:9(BODY(#))", "EXPRESSION(NAME:4)");
        follow("function f() { # }", "function a() {}", "FUNCTION:9(BODY(#))", "FUNCTION:4(BODY)");
        follow("(function () { # })", "a;", "EXPRESSION(FUNCEXPR(BODY(#)))", "EXPRESSION(NAME:4)");
        follow("({get a() { # }})", ";", "EXPRESSION(OBJECT(GETTER:4(FUNCEXPR(BODY(#)))))", "EMPTY");
        follow("switch (a) { # }", "case b:", "SWITCH(NAME:4 #)", "CASE(NAME:5)");
        follow("switch (a) { case b: # }", ";", "SWITCH(NAME:4 CASE(NAME:5 #))", "EMPTY");
        follow("switch (a) { default: # }", ";", "SWITCH(NAME:4 DEFAULT(#))", "EMPTY");
        follow("try { # } finally {}", ";", "TRY(BLOCK(#) FINALLY(BLOCK))", "EMPTY");
        follow("try {} catch (a) { # }", ";", "TRY(BLOCK CATCH:4(BLOCK(#)))", "EMPTY");
    }

    private static void lists() {
        separate("var #", "a", "VAR(#)", "DECLARATION:4");
        separate("for (var #;;) ;", "a", "FOR(VAR(#) NONE NONE EMPTY)", "DECLARATION:4");
        separate("function f(#) {}", "a", "FUNCTION:9(# BODY)", "PARAMETER:4");
        separate("(function (#) {})", "a", "EXPRESSION(FUNCEXPR(# BODY))", "PARAMETER:4");
        separate("a(#)", "b", "EXPRESSION(CALL(NAME:4 #))", "NAME:5");
        separate("new a(#)", "b", "EXPRESSION(NEW(NAME:4 #))", "NAME:5");
        separate("[#]", "a", "EXPRESSION(ARRAY(#))", "NAME:4");
        separate("({#})", "a: b", "EXPRESSION(OBJECT(#))", "DATA:4(NAME:5)");
        follow("[#]", ",", "EXPRESSION(ARRAY(#))", "NONE");
    }

    private static void chains() {
        for (int n : new int[] {1, 6, 7, 50, 200}) {
            left("a", ".b", n, "MEMBER:5(", "NAME:4", ")");
            left("a", "()", n, "CALL(", "NAME:4", ")");
            left("a", " + b", n, "BINARY:19(", "NAME:4", " NAME:5)");
            left("a", ", b", n, "COMMA(", "NAME:4", " NAME:5)");
        }
        for (int n : new int[] {1, 6, 7, 50, 150}) {
            left("a", "[b]", n, "INDEX(", "NAME:4", " NAME:5)");
        }
    }

    private static void left(String first, String more, int n, String ahead, String inner, String behind) {
        Script.means(first + more.repeat(n), ahead.repeat(n) + inner + behind.repeat(n));
    }

    /** Depth 100 is reached, not passed; so many labels may stand open and be found again. */
    private static void nested() {
        StringBuilder labels = new StringBuilder();
        int[][] tokens = new int[98 * 2 + 8][];
        for (int i = 0; i < 98; i++) {
            tokens[2 * i] = new int[] {1, -1, 4 + i, 0};
            tokens[2 * i + 1] = new int[] {4, 70, 0, 0};
            labels.append("LABELLED:").append(4 + i).append('(');
        }
        // while (name 501) continue .. ; ;
        int[][] loop = {
            {1, 24, 500, 0}, {4, 60, 0, 0}, {1, -1, 501, 0}, {4, 61, 0, 0}, {1, 3, 502, 0}, null, {4, 67, 0, 0}, {4, 67, 0, 0}
        };
        System.arraycopy(loop, 0, tokens, 196, loop.length);
        for (int i = 0; i < 98; i++) {
            tokens[201] = new int[] {1, -1, 4 + i, 0};
            String due = "PROGRAM(" + labels + "WHILE(NAME:501 CONTINUE:" + (5 + i) + ")" + ")".repeat(98) + " EMPTY)";
            Check.same("98 labels and continue " + (4 + i), new Script(tokens).tree(), due);
        }
        for (int name : new int[] {3, 102, 999}) {
            tokens[201] = new int[] {1, -1, name, 0};
            Check.same("98 labels and continue " + name, new Script(tokens).tree(), "refused at 201");
        }
    }

    /** What is refused is found behind many as it is behind few. */
    private static void refusedAtTheLast() {
        for (int n : new int[] {1, 6, 7, 50, 100}) {
            Script.refuses("a;".repeat(n) + "`)");
            Script.refuses("{" + "a;".repeat(n) + "`)");
            Script.refuses("function f() {" + "a;".repeat(n) + "`)");
            Script.refuses("function f(" + "a, ".repeat(n) + "`)");
            Script.refuses("\"use strict\"; function f(a, `a" + ", a".repeat(n));
            Script.refuses("a(" + "b, ".repeat(n) + "`)");
            Script.refuses("new a(" + "b, ".repeat(n) + "`)");
            Script.refuses("[" + "b, ".repeat(n) + "`)");
            Script.refuses("({" + "b: c, ".repeat(n) + "get `b");
            Script.refuses("var " + "a, ".repeat(n) + "`)");
            Script.refuses("switch (a) {" + "case b:".repeat(n) + "`)");
            Script.refuses("switch (a) { default: " + "case b:".repeat(n) + "`default:");
            Script.refuses("switch (a) { case b:" + "c;".repeat(n) + "`)");
            Script.accepts("\"a\";".repeat(n) + "with (b) ;");
            Script.refuses("\"a\";".repeat(n) + "\"use strict\"; `with (b) ;");
            Script.refuses("function f(eval) `{" + "\"a\";".repeat(n) + "\"use strict\"; }");
        }
    }

    private static void follow(String round, String part, String dueRound, String duePart) {
        repeat(round, part, "", dueRound, duePart);
    }

    private static void separate(String round, String part, String dueRound, String duePart) {
        repeat(round, part, ", ", dueRound, duePart);
    }

    /** Puts few and many parts in the place of the # of what stands round them. */
    private static void repeat(String round, String part, String between, String dueRound, String duePart) {
        int each = new Script(part + between).tokens.size();
        int most = (MOST_TOKENS - new Script(round.replace("#", "")).tokens.size()) / each;
        for (int n : new int[] {1, 5, 6, 7, 20, most}) {
            String script = round.replace("#", part + (between + part).repeat(n - 1));
            Script.parses(script, dueRound.replace("#", duePart + (" " + duePart).repeat(n - 1)));
        }
    }
}
