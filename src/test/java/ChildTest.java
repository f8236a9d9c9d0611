/** Promise 6: child tells the number of a node's child. */
public final class ChildTest {
    private ChildTest() {
    }

    public static void main(String[] args) {
        // 0 PROGRAM, 1 IF, 2 BINARY, 3 a, 4 b, 5 BLOCK, 6 EMPTY, 7 EMPTY, 8 EXPRESSION, 9 CALL, 10 c,
        // 11 ARRAY, 12 d, 13 e
        SyntaxTree x = new SyntaxTree();
        new Script("if (a + b) { ; ; } c([d], e)").tell(x);
        Check.answers("read()", x::read, 14);
        int[][] due = {{1, 8}, {2, 5}, {3, 4}, {}, {}, {6, 7}, {}, {}, {9}, {10, 11, 13}, {}, {12}, {}, {}};
        for (int k = 0; k < due.length; k++) {
            int node = k;
            for (int i = 0; i < due[k].length; i++) {
                int asked = i;
                Check.answers("child(" + k + ", " + i + ")", () -> x.child(node, asked), due[k][i]);
            }
            int[] wrong = {Integer.MIN_VALUE, -1, due[k].length, due[k].length + 1, 1000, Integer.MAX_VALUE};
            for (int i : wrong) {
                Check.refusesIndex("child(" + k + ", " + i + ")", () -> x.child(node, i));
            }
        }
        int[] noNodes = {Integer.MIN_VALUE, -1, 14, 64, 1000, Integer.MAX_VALUE};
        for (int k : noNodes) {
            Check.refusesIndex("child(" + k + ", 0)", () -> x.child(k, 0));
            Check.refusesIndex("child(" + k + ", -1)", () -> x.child(k, -1));
        }
        Check.answers("the tree is as before", () -> x.child(0, 1), 8);
        Check.end();
    }
}
