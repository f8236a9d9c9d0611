/** What it is: an object is used for at most 512 calls. All of them are answered as the promises say. */
public final class CallsTest {
    private static final int CALLS = 512;

    private CallsTest() {
    }

    public static void main(String[] args) {
        tokensAlone();
        tokensAndARead();
        tokensOfTheLargestTrees();
        readsAlone();
        tokensAndReadsInTurn();
        refusedReadsInTurn();
        questionsOfOneTree();
        refusedCallsAlone();
        Check.end();
    }

    private static void tokensAlone() {
        SyntaxTree x = new SyntaxTree();
        for (int n = 1; n <= CALLS; n++) {
            Check.answers("token " + n + " of " + CALLS, () -> x.token(1, -1, 999, true), n);
        }
    }

    private static void tokensAndARead() {
        SyntaxTree x = new SyntaxTree();
        for (int n = 1; n <= CALLS - 1; n++) {
            Check.answers("token " + n, () -> x.token(4, 67, 0, false), n);
        }
        Check.answers("read() as the last call", x::read, CALLS);
    }

    private static void tokensOfTheLargestTrees() {
        // a line ends before each name: an EXPRESSION and a NAME each
        SyntaxTree x = new SyntaxTree();
        for (int n = 1; n <= CALLS - 3; n++) {
            Check.answers("name " + n, () -> x.token(1, -1, 4, true), n);
        }
        int nodes = 1 + 2 * (CALLS - 3);
        Check.answers("read() of names", x::read, nodes);
        Check.answers("its last node", () -> x.node(nodes - 1, 3), CALLS - 4);
        Check.answers("its last child as the last call", () -> x.child(0, CALLS - 4), nodes - 2);

        // - - .. - a, as deep as it may be
        SyntaxTree y = new SyntaxTree();
        for (int n = 1; n <= 98; n++) {
            Check.answers("prefix " + n, () -> y.token(4, 20, 0, false), n);
        }
        Check.answers("operand", () -> y.token(1, -1, 4, false), 99);
        Check.answers("read() of prefixes", y::read, 101);
        for (int k = 2; k <= 99; k++) {
            int node = k;
            Check.answers("kind of " + k, () -> y.node(node, 0), 43);
            Check.answers("child of " + k, () -> y.child(node, 0), k + 1);
            Check.refusesIndex("second child of " + k, () -> y.child(node, 1));
        }
    }

    private static void readsAlone() {
        SyntaxTree x = new SyntaxTree();
        for (int n = 1; n <= CALLS; n++) {
            Check.answers("read " + n, x::read, 1);
        }
    }

    private static void tokensAndReadsInTurn() {
        SyntaxTree x = new SyntaxTree();
        for (int n = 1; n <= CALLS / 4; n++) {
            Check.answers("first token, round " + n, () -> x.token(3, 0, 4, false), 1);
            Check.answers("second token, round " + n, () -> x.token(4, 67, 0, true), 2);
            Check.answers("read(), round " + n, x::read, 3);
            Check.answers("literal, round " + n, () -> x.node(2, 2), 0);
        }
    }

    private static void refusedReadsInTurn() {
        SyntaxTree x = new SyntaxTree();
        for (int n = 1; n <= CALLS / 4; n++) {
            Check.answers("token, round " + n, () -> x.token(4, 20, 0, false), 1);
            Check.refusesArgument("read(), round " + n, x::read);
            Check.answers("place(), round " + n, x::place, 1);
            Check.refusesIndex("node(0, 0), round " + n, () -> x.node(0, 0));
        }
    }

    private static void questionsOfOneTree() {
        SyntaxTree x = new SyntaxTree();
        Check.answers("token", () -> x.token(4, 67, 0, false), 1);
        Check.answers("read()", x::read, 2);
        for (int n = 0; n < (CALLS - 2) / 5; n++) {
            Check.answers("kind", () -> x.node(1, 0), 4);
            Check.answers("child", () -> x.child(0, 0), 1);
            Check.answers("place", x::place, -1);
            Check.refusesIndex("no node", () -> x.node(2, 0));
            Check.refusesIndex("no child", () -> x.child(1, 0));
        }
    }

    private static void refusedCallsAlone() {
        SyntaxTree x = new SyntaxTree();
        for (int n = 1; n < CALLS / 4; n++) {
            Check.refusesArgument("no token", () -> x.token(0, 0, 0, false));
            Check.refusesArgument("no question", () -> x.node(0, 4));
            Check.refusesIndex("no node", () -> x.node(0, 0));
            Check.refusesIndex("no child", () -> x.child(0, 0));
        }
        Check.answers("place() behind them", x::place, -1);
        Check.answers("token() behind them", () -> x.token(4, 67, 0, false), 1);
        Check.answers("read() behind them", x::read, 2);
        Check.answers("child() as the last call", () -> x.child(0, 0), 1);
    }
}
