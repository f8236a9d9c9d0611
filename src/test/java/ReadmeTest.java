/** The examples of README.md: each call answers what is written behind it there. */
public final class ReadmeTest {
    private ReadmeTest() {
    }

    public static void main(String[] args) {
        SyntaxTree x = new SyntaxTree();
        Check.answers("the name", () -> x.token(1, -1, 4, false), 1);
        Check.answers("the sign +", () -> x.token(4, 19, 0, false), 2);
        Check.answers("the number", () -> x.token(2, 0, 5, false), 3);
        Check.answers("read", x::read, 5);
        int[] kinds = {0, 5, 41, 28, 29};
        for (int k = 0; k < kinds.length; k++) {
            int node = k;
            Check.answers("kind of node " + k, () -> x.node(node, 0), kinds[k]);
        }
        Check.answers("the operator", () -> x.node(2, 2), 19);
        Check.answers("the place of the operator", () -> x.node(2, 3), 1);
        Check.answers("how many operands", () -> x.node(2, 1), 2);
        Check.answers("the right operand", () -> x.child(2, 1), 4);
        Check.answers("place", x::place, -1);

        Check.answers("the sign ++", () -> x.token(4, 73, 0, false), 1);
        Check.answers("the number again", () -> x.token(2, 0, 5, false), 2);
        Check.refusesArgument("read of ++ 5", x::read);
        Check.answers("place of the refusal", x::place, 0);
        Check.refusesIndex("node behind the refusal", () -> x.node(0, 0));
        Check.end();
    }
}
