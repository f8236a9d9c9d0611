/** Promise 2: token counts the tokens and refuses those that there are not. */
public final class TokenTest {
    private TokenTest() {
    }

    public static void main(String[] args) {
        kinds();
        names();
        words();
        texts();
        signs();
        whatDoesNotMatter();
        refusedTokensAreNotCounted();
        limit();
        Check.end();
    }

    private static void told(int kind, int word, int name, boolean known) {
        SyntaxTree x = new SyntaxTree();
        String call = "token(" + kind + ", " + word + ", " + name + ", false)";
        String due = known ? "1" : "IllegalArgumentException";
        Check.same(call, Check.answer(() -> x.token(kind, word, name, false)), due);
    }

    private static void kinds() {
        int[] unknown = {Integer.MIN_VALUE, -1, 0, 6, 7, 100, Integer.MAX_VALUE};
        for (int kind : unknown) {
            told(kind, 1, 4, false);
        }
        for (int kind = 1; kind <= 5; kind++) {
            told(kind, 1, 4, true);
        }
    }

    private static void names() {
        for (int kind = 1; kind <= 3; kind++) {
            told(kind, 0, Integer.MIN_VALUE, false);
            told(kind, 0, -1, false);
            told(kind, 0, 0, true);
            told(kind, 0, 3, true);
            told(kind, 0, 999, true);
            told(kind, 0, 1000, false);
            told(kind, 0, Integer.MAX_VALUE, false);
        }
    }

    private static void words() {
        for (int word = -10; word <= 200; word++) {
            told(1, word, 4, word >= -1 && word <= 44 || word >= 100 && word <= 144);
        }
        told(1, Integer.MIN_VALUE, 4, false);
        told(1, Integer.MAX_VALUE, 4, false);
    }

    private static void texts() {
        for (int word = -3; word <= 5; word++) {
            told(3, word, 4, word == 0 || word == 1);
        }
        told(3, Integer.MIN_VALUE, 4, false);
        told(3, Integer.MAX_VALUE, 4, false);
    }

    private static void signs() {
        for (int sign = -5; sign <= 200; sign++) {
            boolean operator = sign >= 1 && sign <= 13 || sign >= 16 && sign <= 23;
            boolean assignment = sign == 30 || sign >= 33 && sign <= 35 || sign >= 46 && sign <= 53;
            told(4, sign, 0, operator || assignment || sign >= 60 && sign <= 74);
        }
        told(4, Integer.MIN_VALUE, 0, false);
        told(4, Integer.MAX_VALUE, 0, false);
    }

    private static void whatDoesNotMatter() {
        told(2, -77, 4, true);
        told(2, Integer.MAX_VALUE, 4, true);
        told(4, 67, -1, true);
        told(4, 67, Integer.MAX_VALUE, true);
        told(5, Integer.MIN_VALUE, Integer.MIN_VALUE, true);
        told(5, 99, 1000, true);
    }

    private static void refusedTokensAreNotCounted() {
        SyntaxTree x = new SyntaxTree();
        Check.answers("first token", () -> x.token(4, 67, 0, false), 1);
        Check.refusesArgument("no such sign", () -> x.token(4, 14, 0, false));
        Check.refusesArgument("no such kind", () -> x.token(9, 67, 0, true));
        Check.answers("second token", () -> x.token(4, 67, 0, true), 2);
        Check.answers("read()", x::read, 3);
        Check.answers("token behind read()", () -> x.token(4, 67, 0, false), 1);
    }

    private static void limit() {
        SyntaxTree x = new SyntaxTree();
        for (int n = 1; n <= 1000; n++) {
            Check.answers("token " + n, () -> x.token(4, 67, 0, false), n);
        }
        Check.refusesState("token 1001", () -> x.token(4, 67, 0, false));
        Check.refusesState("token 1001 again", () -> x.token(1, -1, 4, true));
        Check.refusesArgument("no token in a full row", () -> x.token(4, 0, 0, false));
        Check.answers("read() of 1000", x::read, 1001);
        Check.answers("token behind it", () -> x.token(4, 67, 0, false), 1);
    }
}
