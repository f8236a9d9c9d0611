/** Promises 1 to 6: what a refused call leaves behind. All but a refused read leave everything as it was. */
public final class RefusedCallTest {
    private RefusedCallTest() {
    }

    public static void main(String[] args) {
        tokensOfANewObject();
        tokensWithinAProgram();
        tokensBehindATree();
        tokensBehindARefusal();
        tokensBeyondTheLimit();
        readsBehindATree();
        readsInARow();
        questions();
        questionsWhileTokensWait();
        Check.end();
    }

    private static SyntaxTree tell(SyntaxTree x, String text) {
        new Script(text).tell(x);
        return x;
    }

    private static void refuseTokens(SyntaxTree x) {
        int[][] wrong = {
            {0, 0, 0}, {6, 0, 0}, {1, -2, 4}, {1, 45, 4}, {1, 99, 4}, {1, 145, 4}, {1, -1, -1}, {1, -1, 1000},
            {2, 0, -1}, {2, 0, 1000}, {3, -1, 4}, {3, 2, 4}, {3, 0, -1}, {3, 1, 1000}, {4, 0, 0}, {4, 75, 0}
        };
        for (int[] t : wrong) {
            for (boolean line : new boolean[] {false, true}) {
                Check.refusesArgument("token " + t[0] + " " + t[1] + " " + t[2], () -> x.token(t[0], t[1], t[2], line));
            }
        }
    }

    private static void tokensOfANewObject() {
        SyntaxTree x = new SyntaxTree();
        refuseTokens(x);
        Check.answers("place() behind refused tokens", x::place, -1);
        Check.refusesIndex("no tree", () -> x.node(0, 0));
        Check.answers("read() behind refused tokens", x::read, 1);
        SyntaxTree y = new SyntaxTree();
        refuseTokens(y);
        Check.answers("the first token", () -> y.token(4, 67, 0, false), 1);
    }

    private static void tokensWithinAProgram() {
        // the line of a refused token does not stick to the next one: a b needs a line between
        SyntaxTree x = tell(new SyntaxTree(), "a");
        refuseTokens(x);
        Check.answers("the second token", () -> x.token(1, -1, 5, false), 2);
        refuseTokens(x);
        Check.refusesArgument("read()", x::read);
        Check.answers("place()", x::place, 1);
        SyntaxTree y = tell(new SyntaxTree(), "a +");
        refuseTokens(y);
        Check.answers("the third token", () -> y.token(1, -1, 5, false), 3);
        refuseTokens(y);
        Check.answers("read() of a + b", y::read, 5);
        Check.answers("the value of the last node", () -> y.node(4, 2), 5);
    }

    private static void tokensBehindATree() {
        SyntaxTree x = tell(new SyntaxTree(), "a + b");
        Check.answers("read()", x::read, 5);
        refuseTokens(x);
        Check.answers("place() stays", x::place, -1);
        Check.answers("the tree stays", () -> x.node(2, 0), 41);
        Check.answers("its children stay", () -> x.child(2, 1), 4);
        Check.answers("read() of nothing", x::read, 1);
    }

    private static void tokensBehindARefusal() {
        SyntaxTree x = tell(new SyntaxTree(), "a + b c");
        Check.refusesArgument("read()", x::read);
        refuseTokens(x);
        Check.answers("place() stays", x::place, 3);
        Check.refusesIndex("still no node", () -> x.node(0, 0));
        Check.answers("the first token", () -> x.token(4, 67, 0, false), 1);
        Check.answers("place() stays with a token", x::place, 3);
        Check.answers("read()", x::read, 2);
        Check.answers("place() behind it", x::place, -1);
    }

    private static void tokensBeyondTheLimit() {
        SyntaxTree x = new SyntaxTree();
        for (int n = 1; n <= 999; n++) {
            Check.answers("token " + n, () -> x.token(4, 67, 0, false), n);
        }
        refuseTokens(x);
        Check.answers("token 1000", () -> x.token(1, -1, 4, false), 1000);
        Check.refusesState("token 1001", () -> x.token(1, -1, 4, true));
        Check.refusesState("token 1001 again", () -> x.token(4, 61, 0, false));
        Check.answers("place()", x::place, -1);
        Check.answers("read() of 1000", x::read, 1002);
        Check.answers("the last one's place", () -> x.node(1001, 3), 999);
        Check.answers("children", () -> x.node(0, 1), 1000);
        Check.answers("token behind read()", () -> x.token(4, 61, 0, false), 1);
        Check.refusesArgument("read() of it", x::read);
        for (int n = 1; n <= 1000; n++) {
            int sign = n <= 999 ? 67 : 60;
            Check.answers("sign " + n, () -> x.token(4, sign, 0, false), n);
        }
        Check.refusesState("token 1001", () -> x.token(1, -1, 4, true));
        Check.refusesArgument("read() of 1000 that break off", x::read);
        Check.answers("the END's number", x::place, 1000);
        Check.answers("token behind it", () -> x.token(4, 67, 0, false), 1);
    }

    private static void readsBehindATree() {
        SyntaxTree x = tell(new SyntaxTree(), "a + b");
        Check.answers("read()", x::read, 5);
        tell(x, "a + ");
        Check.refusesArgument("read() of what breaks off", x::read);
        Check.answers("place()", x::place, 2);
        for (int k = 0; k <= 5; k++) {
            int node = k;
            Check.refusesIndex("no node " + k, () -> x.node(node, 0));
            Check.refusesIndex("no child of " + k, () -> x.child(node, 0));
        }
        tell(x, "b");
        Check.answers("its tokens do not go on", x::read, 3);
        Check.answers("place()", x::place, -1);
        Check.answers("the tree's last node", () -> x.node(2, 0), 28);
        Check.refusesIndex("nothing behind it", () -> x.node(3, 0));
    }

    private static void readsInARow() {
        SyntaxTree x = new SyntaxTree();
        String[] scripts = {"a b", ")", "a = = b", "(a", "while (a)", "\"use strict\"; with (a) ;"};
        int[] places = {1, 0, 2, 2, 4, 2};
        for (int i = 0; i < scripts.length; i++) {
            tell(x, scripts[i]);
            Check.refusesArgument(scripts[i], x::read);
            Check.answers("place() of " + scripts[i], x::place, places[i]);
        }
        Check.answers("read() of nothing", x::read, 1);
        Check.answers("place() of nothing", x::place, -1);
        Check.answers("a program without statements", () -> x.node(0, 1), 0);
        Check.answers("which is not strict", () -> x.node(0, 2), 0);
    }

    private static void refuseQuestions(SyntaxTree x, int nodes) {
        int[] noNodes = {Integer.MIN_VALUE, -1, nodes, nodes + 1, Integer.MAX_VALUE};
        int[] noQuestions = {Integer.MIN_VALUE, -1, 4, Integer.MAX_VALUE};
        for (int k : noNodes) {
            for (int what = 0; what <= 3; what++) {
                int asked = what;
                Check.refusesIndex("node(" + k + ", " + what + ")", () -> x.node(k, asked));
            }
            for (int i : new int[] {Integer.MIN_VALUE, -1, 0, 1, Integer.MAX_VALUE}) {
                Check.refusesIndex("child(" + k + ", " + i + ")", () -> x.child(k, i));
            }
        }
        for (int what : noQuestions) {
            for (int k = 0; k < nodes; k++) {
                int node = k;
                Check.refusesArgument("node(" + k + ", " + what + ")", () -> x.node(node, what));
            }
        }
    }

    private static void questions() {
        SyntaxTree x = new SyntaxTree();
        refuseQuestions(x, 0);
        Check.answers("place()", x::place, -1);
        Check.answers("read()", x::read, 1);
        refuseQuestions(x, 1);
        tell(x, "a + b");
        refuseQuestions(x, 1);
        Check.answers("read() of a + b", x::read, 5);
        refuseQuestions(x, 5);
        Check.answers("the tree stays", () -> x.node(2, 1), 2);
        Check.answers("its child, too", () -> x.child(2, 1), 4);
        Check.answers("place() stays", x::place, -1);
        tell(x, "a b");
        Check.refusesArgument("read() of a b", x::read);
        refuseQuestions(x, 0);
        Check.answers("place() of it stays", x::place, 1);
    }

    private static void questionsWhileTokensWait() {
        SyntaxTree x = tell(new SyntaxTree(), "a +");
        refuseQuestions(x, 0);
        Check.answers("the third token", () -> x.token(1, -1, 5, false), 3);
        refuseQuestions(x, 0);
        Check.answers("read()", x::read, 5);
    }
}
