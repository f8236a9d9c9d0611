/** Promise 4: place tells where the latest tokens were refused. */
public final class PlaceTest {
    private PlaceTest() {
    }

    public static void main(String[] args) {
        SyntaxTree x = new SyntaxTree();
        Check.answers("place() ahead of all", x::place, -1);
        Check.answers("read() without tokens", x::read, 1);
        Check.answers("place() behind it", x::place, -1);
        new Script("a b").tell(x);
        Check.answers("place() ahead of read()", x::place, -1);
        Check.refusesArgument("read()", x::read);
        Check.answers("place() at the second token", x::place, 1);
        Check.answers("place() again", x::place, 1);
        new Script(")").tell(x);
        Check.answers("place() while tokens are told", x::place, 1);
        Check.refusesArgument("read() of a token", x::read);
        Check.answers("place() at the first token", x::place, 0);
        new Script("a = (b").tell(x);
        Check.refusesArgument("read() of what breaks off", x::read);
        Check.answers("place() at the END", x::place, 4);
        new Script("a = b").tell(x);
        Check.answers("read() of what is right", x::read, 5);
        Check.answers("place() of none", x::place, -1);
        new Script("1 = b").tell(x);
        Check.refusesArgument("read() of what is wrong", x::read);
        Check.answers("place() of it", x::place, 1);
        Check.answers("read() without tokens", x::read, 1);
        Check.answers("place() without tokens", x::place, -1);
        Check.end();
    }
}
