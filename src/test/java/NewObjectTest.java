/** Promise 1: a new object has no tokens and no tree. */
public final class NewObjectTest {
    private NewObjectTest() {
    }

    public static void main(String[] args) {
        noTree();
        noTokens();
        objectsAreApart();
        Check.end();
    }

    private static void noTree() {
        SyntaxTree x = new SyntaxTree();
        Check.answers("place() of a new object", x::place, -1);
        for (int what = 0; what <= 3; what++) {
            int asked = what;
            Check.refusesIndex("node(0, " + what + ") of a new object", () -> x.node(0, asked));
        }
        Check.refusesIndex("child(0, 0) of a new object", () -> x.child(0, 0));
    }

    private static void noTokens() {
        SyntaxTree x = new SyntaxTree();
        Check.answers("read() of a new object", x::read, 1);
        SyntaxTree y = new SyntaxTree();
        Check.answers("first token()", () -> y.token(5, 0, 0, false), 1);
    }

    private static void objectsAreApart() {
        SyntaxTree x = new SyntaxTree();
        SyntaxTree y = new SyntaxTree();
        x.token(4, 67, 0, false);
        Check.answers("read() of the one with a token", x::read, 2);
        Check.answers("read() of the other", y::read, 1);
    }
}
