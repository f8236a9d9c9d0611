/** Promise 3: read counts nodes, uses the tokens up, and leaves no tree when they are refused. */
public final class ReadTest {
    private ReadTest() {
    }

    public static void main(String[] args) {
        withoutTokens();
        tokensAreUsedUp();
        refusedTokensAreUsedUp();
        aTreeIsReplaced();
        longPrograms();
        nothingIsKeptBetweenReads();
        longerProgramsLeaveNothing();
        Check.end();
    }

    private static SyntaxTree tell(SyntaxTree x, String text) {
        new Script(text).tell(x);
        return x;
    }

    private static void withoutTokens() {
        SyntaxTree x = new SyntaxTree();
        Check.answers("read() without tokens", x::read, 1);
        Check.answers("kind of the program", () -> x.node(0, 0), 0);
        Check.answers("its children", () -> x.node(0, 1), 0);
        Check.answers("its value", () -> x.node(0, 2), 0);
        Check.answers("its place", () -> x.node(0, 3), 0);
        Check.answers("read() without tokens again", x::read, 1);
    }

    private static void tokensAreUsedUp() {
        SyntaxTree x = tell(new SyntaxTree(), "a + b;");
        Check.answers("read()", x::read, 5);
        Check.answers("read() again", x::read, 1);
        Check.refusesIndex("the first tree is gone", () -> x.node(1, 0));
        tell(x, "(a) if 1 \"use strict\"");
        Check.refusesArgument("read() of more", x::read);
        tell(x, "(a");
        Check.refusesArgument("nothing of it is left", x::read);
        Check.answers("place()", x::place, 2);
        tell(x, "a; \n b");
        Check.answers("read() of two", x::read, 5);
        tell(x, "a; b;");
        Check.answers("read() of as many", x::read, 5);
        tell(x, "a");
        Check.answers("read() of fewer", x::read, 3);
    }

    private static void refusedTokensAreUsedUp() {
        SyntaxTree x = tell(new SyntaxTree(), "a + ;");
        Check.refusesArgument("read() of what is refused", x::read);
        for (int what = 0; what <= 3; what++) {
            int asked = what;
            Check.refusesIndex("no node is there", () -> x.node(0, asked));
        }
        Check.refusesIndex("no child is there", () -> x.child(0, 0));
        Check.answers("token behind it", () -> x.token(4, 67, 0, false), 1);
        Check.answers("read() behind it", x::read, 2);
        Check.answers("the new tree", () -> x.node(1, 0), 4);
    }

    private static void aTreeIsReplaced() {
        SyntaxTree x = tell(new SyntaxTree(), "a + b");
        Check.answers("read()", x::read, 5);
        tell(x, ";");
        Check.answers("the tree stays while tokens are told", () -> x.node(2, 0), 41);
        Check.answers("read() of the next", x::read, 2);
        Check.refusesIndex("the old tree is gone", () -> x.node(2, 0));
        tell(x, ")");
        Check.answers("the tree stays ahead of a refusal", () -> x.node(1, 0), 4);
        Check.refusesArgument("read() of what is refused", x::read);
        Check.refusesIndex("the tree is gone", () -> x.node(0, 0));
    }

    private static void longPrograms() {
        SyntaxTree x = new SyntaxTree();
        for (int n = 0; n < 500; n++) {
            x.token(1, -1, 4, true);
        }
        Check.answers("read() of 500 lines", x::read, 1001);
        Check.answers("children of the program", () -> x.node(0, 1), 500);
        Check.answers("last child", () -> x.child(0, 499), 999);
        Check.answers("place of the last", () -> x.node(1000, 3), 499);
        for (int n = 0; n < 1000; n++) {
            x.token(4, n % 2 == 0 ? 73 : 67, 0, false);
        }
        Check.refusesArgument("read() of 1000 refused tokens", x::read);
        Check.answers("place", x::place, 1);
    }

    private static void nothingIsKeptBetweenReads() {
        SyntaxTree x = tell(new SyntaxTree(), "\"use strict\"; a: while (a) function");
        Check.refusesArgument("read() that stops in a strict loop", x::read);
        tell(x, "a: with (b) ;");
        Check.answers("neither strict nor labels are left", x::read, 5);
        tell(x, "break");
        Check.refusesArgument("nor the loop", x::read);
        Check.answers("place", x::place, 0);
        tell(x, "function f() { switch (a) { case b: return )");
        Check.refusesArgument("read() that stops in a function", x::read);
        tell(x, "return");
        Check.refusesArgument("nor the function", x::read);
        tell(x, "1; 2");
        Check.answers("literals are numbered anew", x::read, 5);
        Check.answers("first literal", () -> x.node(2, 2), 0);
        Check.answers("second literal", () -> x.node(4, 2), 1);
    }

    /** The beginning of a program is read behind the whole of it as it is by a new object. */
    private static void longerProgramsLeaveNothing() {
        String[] programs = {
            "var a = b, c", "a: while (b) break a", "a: for (;;) continue a", "function f(a, b) { \"use strict\"; return a }",
            "a.b(c)[d] ++", "({get a() {}, set a(b) {}, c: d})", "try {} catch (a) {} finally {}", "a\nb\n++ c",
            "\"use strict\"; \"a\"; b", "if (a) b; else c", "for (var a = 1 in b) ;", "new a(b)", "a ? b : c = d",
            "switch (a) { case b: default: }", "do ; while (a)", "throw @, 1, \"a\"", "[a, , b]", "- typeof a",
        };
        for (String program : programs) {
            Script whole = new Script(program);
            for (int n = 0; n < whole.tokens.size(); n++) {
                Script part = new Script(whole.tokens.subList(0, n).toArray(new int[0][]));
                SyntaxTree used = tell(new SyntaxTree(), program);
                Check.same("read() of " + program, Check.answer(used::read).startsWith("I"), false);
                SyntaxTree fresh = new SyntaxTree();
                part.tell(used);
                part.tell(fresh);
                String what = "the first " + n + " of " + program;
                String nodes = Check.answer(fresh::read);
                Check.same(what, Check.answer(used::read), nodes);
                Check.same("place() of " + what, used.place(), fresh.place());
                for (int k = 0; k <= 2 * n + 1; k++) {
                    for (int about = 0; about <= 3; about++) {
                        int node = k;
                        int asked = about;
                        Check.same("node(" + k + ", " + about + ") of " + what,
                            Check.answer(() -> used.node(node, asked)), Check.answer(() -> fresh.node(node, asked)));
                    }
                }
            }
        }
    }
}
