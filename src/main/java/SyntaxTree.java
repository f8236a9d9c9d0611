import java.util.Arrays;

/**
 * The parser of a script language (ECMA-262, edition 5.1): tokens are told one by one, read() makes a
 * tree of them or refuses them at a token, and the tree is asked for node by node.
 */
public final class SyntaxTree {
    private final Tokens tokens;
    private final Tree tree;
    private final Parser parser;
    private int refusedAt;

    public SyntaxTree() {
        tokens = new Tokens();
        tree = new Tree();
        parser = new Parser(tokens, tree);
        refusedAt = Cursor.NOWHERE;
    }

    public int token(int kind, int word, int name, boolean line)
            throws IllegalArgumentException, IllegalStateException {
        if (!Tokens.known(kind, word, name)) {
            throw new IllegalArgumentException("no such token");
        }
        if (tokens.count() >= Tokens.MOST) {
            throw new IllegalStateException("too many tokens");
        }
        tokens.add(kind, word, name, line);
        return tokens.count();
    }

    public int read() throws IllegalArgumentException {
        refusedAt = parser.parse();
        tokens.clear();
        if (refusedAt != Cursor.NOWHERE) {
            tree.clear();
            throw new IllegalArgumentException("the tokens are refused");
        }
        return tree.count();
    }

    public int place() {
        return refusedAt;
    }

    public int node(int k, int what) throws IllegalArgumentException, IndexOutOfBoundsException {
        if (what < 0 || what > 3) {
            throw new IllegalArgumentException("no such question");
        }
        if (!tree.has(k)) {
            throw new IndexOutOfBoundsException("no such node");
        }
        switch (what) {
            case 0:
                return tree.kind(k);
            case 1:
                return tree.children(k);
            case 2:
                return tree.value(k);
            default:
                return tree.where(k);
        }
    }

    public int child(int k, int i) throws IndexOutOfBoundsException {
        int found = tree.part(k, i);
        if (found == Tree.NO_NODE) {
            throw new IndexOutOfBoundsException("no such child");
        }
        return found;
    }

    /** The kinds of nodes, by the document's numbers. */
    private static final class Kind {
        static final int PROGRAM = 0;
        static final int BLOCK = 1;
        static final int VAR = 2;
        static final int DECLARATION = 3;
        static final int EMPTY = 4;
        static final int EXPRESSION = 5;
        static final int IF = 6;
        static final int DO = 7;
        static final int WHILE = 8;
        static final int FOR = 9;
        static final int FOR_IN = 10;
        static final int CONTINUE = 11;
        static final int BREAK = 12;
        static final int RETURN = 13;
        static final int WITH = 14;
        static final int SWITCH = 15;
        static final int CASE = 16;
        static final int DEFAULT = 17;
        static final int LABELLED = 18;
        static final int THROW = 19;
        static final int TRY = 20;
        static final int CATCH = 21;
        static final int FINALLY = 22;
        static final int DEBUGGER = 23;
        static final int FUNCTION = 24;
        static final int PARAMETER = 25;
        static final int BODY = 26;
        static final int THIS = 27;
        static final int NAME = 28;
        static final int NUMBER = 29;
        static final int TEXT = 30;
        static final int PATTERN = 31;
        static final int TRUE = 32;
        static final int FALSE = 33;
        static final int NULL = 34;
        static final int ARRAY = 35;
        static final int MEMBER = 36;
        static final int INDEX = 37;
        static final int CALL = 38;
        static final int NEW = 39;
        static final int CONDITIONAL = 40;
        static final int BINARY = 41;
        static final int ASSIGN = 42;
        static final int PREFIX = 43;
        static final int POSTFIX = 44;
        static final int COMMA = 45;
        static final int OBJECT = 46;
        static final int DATA = 47;
        static final int GETTER = 48;
        static final int SETTER = 49;
        static final int FUNCTION_EXPRESSION = 50;
        static final int NONE = 59;
    }

    /** The reserved words that the grammar asks for, by the document's numbers. */
    private static final class Word {
        static final int NO_WORD = -1;
        static final int BREAK = 0;
        static final int CASE = 1;
        static final int CATCH = 2;
        static final int CONTINUE = 3;
        static final int DEBUGGER = 4;
        static final int DEFAULT = 5;
        static final int DELETE = 6;
        static final int DO = 7;
        static final int ELSE = 8;
        static final int FINALLY = 9;
        static final int FOR = 10;
        static final int FUNCTION = 11;
        static final int IF = 12;
        static final int IN = 13;
        static final int INSTANCEOF = 14;
        static final int NEW = 15;
        static final int RETURN = 16;
        static final int SWITCH = 17;
        static final int THIS = 18;
        static final int THROW = 19;
        static final int TRY = 20;
        static final int TYPEOF = 21;
        static final int VAR = 22;
        static final int VOID = 23;
        static final int WHILE = 24;
        static final int WITH = 25;
        static final int NULL = 26;
        static final int TRUE = 27;
        static final int FALSE = 28;
        static final int LAST_RESERVED = 35;
        static final int LAST = 44;
        static final int ESCAPED = 100;
    }

    /** The signs that the grammar asks for and the operators that are words, by the document's numbers. */
    private static final class Sign {
        static final int NO_SIGN = -1;
        static final int INSTANCEOF = 14;
        static final int IN = 15;
        static final int PLUS = 19;
        static final int MINUS = 20;
        static final int LAST_OPERATOR = 23;
        static final int ASSIGN = 30;
        static final int LAST_ASSIGN = 53;
        static final int ROUND_OPEN = 60;
        static final int ROUND_CLOSE = 61;
        static final int SQUARE_OPEN = 62;
        static final int SQUARE_CLOSE = 63;
        static final int CURLY_OPEN = 64;
        static final int CURLY_CLOSE = 65;
        static final int DOT = 66;
        static final int SEMICOLON = 67;
        static final int COMMA = 68;
        static final int QUESTION = 69;
        static final int COLON = 70;
        static final int NOT = 71;
        static final int TILDE = 72;
        static final int INCREASE = 73;
        static final int DECREASE = 74;
    }

    /** The tokens that wait to be read. Behind the last one every place holds END. */
    private static final class Tokens {
        static final int MOST = 1000;
        static final int END = 0;
        static final int NAME = 1;
        static final int NUMBER = 2;
        static final int TEXT = 3;
        static final int SIGN = 4;
        static final int PATTERN = 5;
        static final int GET = 2;
        static final int SET = 3;
        private static final int EVAL = 0;
        private static final int ARGUMENTS = 1;
        private static final int NO_NAME = -1;
        private static final int LAST_NAME = 999;
        private static final int FIRST_ROOM = 64;

        private int[] kinds = new int[FIRST_ROOM];
        private int[] words = new int[FIRST_ROOM];
        private int[] names = new int[FIRST_ROOM];
        private int[] lines = new int[FIRST_ROOM];
        private int count = 0;

        static boolean known(int kind, int word, int name) {
            switch (kind) {
                case NAME:
                    return knownWord(word) && knownName(name);
                case NUMBER:
                    return knownName(name);
                case TEXT:
                    return (word == 0 || word == 1) && knownName(name);
                case SIGN:
                    return knownSign(word);
                default:
                    return kind == PATTERN;
            }
        }

        private static boolean knownName(int name) {
            return name >= 0 && name <= LAST_NAME;
        }

        private static boolean knownWord(int word) {
            return word >= Word.NO_WORD && word <= Word.LAST
                || word >= Word.ESCAPED && word <= Word.ESCAPED + Word.LAST;
        }

        private static boolean knownSign(int sign) {
            return sign >= 1 && sign <= 13
                || sign >= 16 && sign <= Sign.LAST_OPERATOR
                || sign == Sign.ASSIGN
                || sign >= 33 && sign <= 35
                || sign >= 46 && sign <= Sign.LAST_ASSIGN
                || sign >= Sign.ROUND_OPEN && sign <= Sign.DECREASE;
        }

        int count() {
            return count;
        }

        void clear() {
            count = 0;
        }

        void add(int kind, int word, int name, boolean line) {
            if (count >= MOST) {
                return;
            }
            if (count == kinds.length) {
                grow(Math.min(MOST, 2 * count));
            }
            kinds[count] = kind;
            words[count] = word;
            names[count] = name;
            lines[count] = line ? 1 : 0;
            count++;
        }

        private void grow(int room) {
            kinds = Arrays.copyOf(kinds, room);
            words = Arrays.copyOf(words, room);
            names = Arrays.copyOf(names, room);
            lines = Arrays.copyOf(lines, room);
        }

        int kind(int i) {
            return i >= 0 && i < count ? kinds[i] : END;
        }

        int name(int i) {
            return i >= 0 && i < count ? names[i] : NO_NAME;
        }

        boolean line(int i) {
            return i >= 0 && i < count && lines[i] == 1;
        }

        int sign(int i) {
            return i >= 0 && i < count && kinds[i] == SIGN ? words[i] : Sign.NO_SIGN;
        }

        /** The keyword that the token is: with an escape in it, it is none, though it stays reserved. */
        int keyword(int i) {
            boolean named = i >= 0 && i < count && kinds[i] == NAME;
            return named && words[i] <= Word.LAST_RESERVED ? words[i] : Word.NO_WORD;
        }

        /** Whether the token is a name that is not reserved. */
        boolean identifier(int i, boolean strict) {
            if (i < 0 || i >= count || kinds[i] != NAME) {
                return false;
            }
            int word = words[i] >= Word.ESCAPED ? words[i] - Word.ESCAPED : words[i];
            return word == Word.NO_WORD || !strict && word > Word.LAST_RESERVED;
        }

        static boolean evalOrArguments(int name) {
            return name == EVAL || name == ARGUMENTS;
        }

        boolean asksForStrict(int i) {
            return i >= 0 && i < count && kinds[i] == TEXT && words[i] == 1;
        }

        boolean propertyName(int i) {
            int kind = kind(i);
            return kind == NAME || kind == NUMBER || kind == TEXT;
        }
    }

    /**
     * The tree in preorder. A node's size counts it and all that is in it, so that its children are
     * found by steps over whole subtrees; the size is known when the node is closed.
     */
    private static final class Tree {
        static final int NO_NODE = -1;
        private static final int NO_KIND = -1;
        private static final int FIRST_ROOM = 64;

        private int[] kinds = new int[FIRST_ROOM];
        private int[] values = new int[FIRST_ROOM];
        private int[] wheres = new int[FIRST_ROOM];
        private int[] sizes = new int[FIRST_ROOM];
        private int count = 0;

        int count() {
            return count;
        }

        void clear() {
            count = 0;
        }

        boolean has(int k) {
            return k >= 0 && k < count;
        }

        int kind(int k) {
            return k >= 0 && k < count ? kinds[k] : NO_KIND;
        }

        int value(int k) {
            return k >= 0 && k < count ? values[k] : 0;
        }

        int where(int k) {
            return k >= 0 && k < count ? wheres[k] : 0;
        }

        void setKind(int k, int kind) {
            if (has(k)) {
                kinds[k] = kind;
            }
        }

        void setValue(int k, int value) {
            if (has(k)) {
                values[k] = value;
            }
        }

        /** A new node behind all others; what is added until it is closed stands in it. */
        int open(int kind, int value, int where) {
            makeRoom();
            put(count, kind, value, where, 1);
            count++;
            return count - 1;
        }

        void close(int k) {
            if (has(k)) {
                sizes[k] = count - k;
            }
        }

        /** A new node round the whole subtrees from the start on: its operator was met behind them. */
        void wrap(int start, int kind, int value, int where) {
            if (!has(start)) {
                return;
            }
            makeRoom();
            int moved = count - start;
            System.arraycopy(kinds, start, kinds, start + 1, moved);
            System.arraycopy(values, start, values, start + 1, moved);
            System.arraycopy(wheres, start, wheres, start + 1, moved);
            System.arraycopy(sizes, start, sizes, start + 1, moved);
            put(start, kind, value, where, moved + 1);
            count++;
        }

        private void put(int k, int kind, int value, int where, int size) {
            kinds[k] = kind;
            values[k] = value;
            wheres[k] = where;
            sizes[k] = size;
        }

        private void makeRoom() {
            if (count == kinds.length) {
                int room = 2 * count;
                kinds = Arrays.copyOf(kinds, room);
                values = Arrays.copyOf(values, room);
                wheres = Arrays.copyOf(wheres, room);
                sizes = Arrays.copyOf(sizes, room);
            }
        }

        /** The node behind the whole subtree of node k. */
        int behind(int k) {
            return has(k) ? k + Math.max(1, sizes[k]) : count;
        }

        int children(int k) {
            int end = behind(k);
            int at = k + 1;
            int found = 0;
            for (int n = 0; n < count && at < end; n++) {
                at = behind(at);
                found++;
            }
            return found;
        }

        int part(int k, int i) {
            if (!has(k) || i < 0) {
                return NO_NODE;
            }
            int end = behind(k);
            int at = k + 1;
            for (int n = 0; n < i && at < end; n++) {
                at = behind(at);
            }
            return at < end ? at : NO_NODE;
        }
    }

    /** The labels of the statements that stand open, from the outermost to the innermost. */
    private static final class Labels {
        static final int NO_LABEL = -1;

        // Each label's statement is one level deeper, so no more can stand open at once.
        private final int[] names = new int[Cursor.DEEPEST];
        private final boolean[] ofLoops = new boolean[Cursor.DEEPEST];
        private int count = 0;

        int count() {
            return count;
        }

        void clear() {
            count = 0;
        }

        void push(int name) {
            if (count < names.length) {
                names[count] = name;
                ofLoops[count] = false;
                count++;
            }
        }

        void pop() {
            if (count > 0) {
                count--;
            }
        }

        void markAsLoops(int first) {
            for (int i = Math.max(0, first); i < count; i++) {
                ofLoops[i] = true;
            }
        }

        int find(int first, int name) {
            for (int i = count - 1; i >= Math.max(0, first); i--) {
                if (names[i] == name) {
                    return i;
                }
            }
            return NO_LABEL;
        }

        boolean ofLoop(int label) {
            return label >= 0 && label < count && ofLoops[label];
        }
    }

    /** What holds of the code of one function, or of the program outside of all functions. */
    private static final class Code {
        final boolean function;
        final int firstLabel;
        boolean strict;
        int loops = 0;
        int switches = 0;

        Code(boolean function, boolean strict, int firstLabel) {
            this.function = function;
            this.strict = strict;
            this.firstLabel = firstLabel;
        }
    }

    /** A place among the tokens, with what can be asked and demanded of the token there. */
    private abstract static class Cursor {
        static final int DEEPEST = 100;
        static final int NOWHERE = -1;

        final Tokens tokens;
        int at = 0;
        int refusedAt = NOWHERE;
        Code code = new Code(false, false, 0);

        Cursor(Tokens tokens) {
            this.tokens = tokens;
        }

        final void refuse(int where) {
            refusedAt = where;
            throw new IllegalArgumentException("refused");
        }

        final boolean atEnd() {
            return tokens.kind(at) == Tokens.END;
        }

        final boolean atSign(int sign) {
            return tokens.sign(at) == sign;
        }

        final boolean atWord(int word) {
            return tokens.keyword(at) == word;
        }

        final boolean atIdentifier() {
            return tokens.identifier(at, code.strict);
        }

        final boolean accept(int sign) {
            boolean there = tokens.sign(at) == sign;
            if (there) {
                at++;
            }
            return there;
        }

        final void expect(int sign) {
            if (tokens.sign(at) != sign) {
                refuse(at);
            }
            at++;
        }

        final void expectWord(int word) {
            if (tokens.keyword(at) != word) {
                refuse(at);
            }
            at++;
        }

        final void guard(int depth) {
            if (depth > DEEPEST) {
                refuse(at);
            }
        }

        /** Takes the name of a variable, parameter or function, or of what is caught. */
        final int boundName() {
            int name = tokens.name(at);
            boolean forbidden = code.strict && Tokens.evalOrArguments(name);
            if (forbidden || !tokens.identifier(at, code.strict)) {
                refuse(at);
            }
            at++;
            return name;
        }

        /** Whether a statement may end here, be it with a semicolon that is not written. */
        final boolean statementEnds() {
            int sign = tokens.sign(at);
            boolean end = tokens.kind(at) == Tokens.END;
            return sign == Sign.SEMICOLON || sign == Sign.CURLY_CLOSE || end || tokens.line(at);
        }

        final void semicolon() {
            if (!statementEnds()) {
                refuse(at);
            }
            accept(Sign.SEMICOLON);
        }

        /** Whether one more argument comes; takes the comma ahead of it or the ) behind the last one. */
        final boolean nextArgument(int taken) {
            if (taken == 0) {
                return !accept(Sign.ROUND_CLOSE);
            }
            if (accept(Sign.COMMA)) {
                return true;
            }
            expect(Sign.ROUND_CLOSE);
            return false;
        }

        /** Whether one more property comes; takes the comma ahead of it or the } behind the last one. */
        final boolean nextProperty(int taken) {
            if (accept(Sign.CURLY_CLOSE)) {
                return false;
            }
            if (taken > 0) {
                expect(Sign.COMMA);
            }
            return !accept(Sign.CURLY_CLOSE);
        }

        /** Whether the statement that began at the token and is through now is a text alone. */
        final boolean wasTextAlone(int first) {
            boolean unwritten = at == first + 1;
            boolean written = at == first + 2 && tokens.sign(first + 1) == Sign.SEMICOLON;
            return tokens.kind(first) == Tokens.TEXT && (unwritten || written);
        }

        /** The binary operator here, 0 if there is none. */
        final int binaryOperator(boolean in) {
            if (atWord(Word.INSTANCEOF)) {
                return Sign.INSTANCEOF;
            }
            if (in && atWord(Word.IN)) {
                return Sign.IN;
            }
            int sign = tokens.sign(at);
            return sign >= 1 && sign <= Sign.LAST_OPERATOR ? sign : 0;
        }
    }

    /**
     * The parser itself, by recursive descent. A level of depth goes through at most three methods, so
     * that the calls that stand open at once stay few: whoever calls expression() or statement() is
     * called by one of them directly.
     */
    private static final class Parser extends Cursor {
        // How much an expression may take in: all, all but commas, the ranks of binary operators
        // between, a prefix and its operand at most, and what may stand behind new.
        private static final int COMMA = -1;
        private static final int ASSIGN = 0;
        private static final int LOWEST_BINARY = 1;
        private static final int HIGHEST_BINARY = 10;
        private static final int UNARY = 11;
        private static final int CALLED_BY_NEW = 12;

        private static final int[] RANKS = {
            0, 1, 2, 3, 4, 5, 6, 6, 6, 6, 7, 7, 7, 7, 7, 7, 8, 8, 8, 9, 9, 10, 10, 10
        };

        private static final int NO_PREFIX = -1;
        private static final int DELETE = 0;
        private static final int INCREASE = 3;
        private static final int DECREASE = 4;

        private final Tree tree;
        private final Labels labels = new Labels();
        private int literals = 0;

        Parser(Tokens tokens, Tree tree) {
            super(tokens);
            this.tree = tree;
        }

        /** Makes the tree of the tokens: the place where they are refused, or NOWHERE. */
        int parse() {
            at = 0;
            literals = 0;
            refusedAt = NOWHERE;
            code = new Code(false, false, 0);
            labels.clear();
            tree.clear();
            try {
                program();
            } catch (IllegalArgumentException refusal) {
                return refusedAt;
            }
            return NOWHERE;
        }

        private void program() {
            int made = tree.open(Kind.PROGRAM, 0, 0);
            boolean prologue = true;
            for (int n = 0; n <= Tokens.MOST && !atEnd(); n++) {
                int first = at;
                if (atWord(Word.FUNCTION)) {
                    function(Kind.FUNCTION, 1);
                } else {
                    statement(1, labels.count());
                }
                prologue = prologue && wasTextAlone(first);
                if (prologue && tokens.asksForStrict(first)) {
                    code.strict = true;
                }
            }
            tree.setValue(made, code.strict ? 1 : 0);
            tree.close(made);
        }

        // ---- functions

        /** A function of either kind, or that of a getter or setter, which begins with its (. */
        private void function(int form, int depth) {
            guard(depth);
            int made = functionName(form);
            parameters(made, form);
            int brace = at;
            expect(Sign.CURLY_OPEN);
            int body = tree.open(Kind.BODY, 0, brace);
            Code outer = code;
            code = new Code(true, outer.strict, labels.count());
            boolean prologue = true;
            for (int n = 0; n <= Tokens.MOST && !accept(Sign.CURLY_CLOSE); n++) {
                int first = at;
                if (atWord(Word.FUNCTION)) {
                    function(Kind.FUNCTION, depth + 1);
                } else {
                    statement(depth + 1, labels.count());
                }
                prologue = prologue && wasTextAlone(first);
                if (prologue && tokens.asksForStrict(first)) {
                    makeStrict(made, body);
                }
            }
            tree.setValue(body, code.strict ? 1 : 0);
            code = outer;
            tree.close(body);
            tree.close(made);
        }

        private int functionName(int form) {
            int kind = form == Kind.FUNCTION ? Kind.FUNCTION : Kind.FUNCTION_EXPRESSION;
            int made = tree.open(kind, 0, at);
            if (form == kind) {
                at++;
            }
            if (form == Kind.FUNCTION) {
                tree.setValue(made, boundName());
            } else if (form == kind && !atSign(Sign.ROUND_OPEN)) {
                tree.setValue(made, boundName() + 1);
            }
            return made;
        }

        private void parameters(int made, int form) {
            expect(Sign.ROUND_OPEN);
            if (form == Kind.GETTER) {
                expect(Sign.ROUND_CLOSE);
            } else if (form == Kind.SETTER) {
                parameter(made);
                expect(Sign.ROUND_CLOSE);
            } else {
                for (int n = 0; n <= Tokens.MOST && nextArgument(n); n++) {
                    parameter(made);
                }
            }
        }

        private void parameter(int made) {
            int where = at;
            int name = boundName();
            if (code.strict && hasParameter(made, tree.count(), name)) {
                refuse(where);
            }
            tree.open(Kind.PARAMETER, name, where);
        }

        /** Whether a function has a parameter of the name among the nodes ahead of the end. */
        private boolean hasParameter(int made, int end, int name) {
            for (int k = made + 1; k < end; k++) {
                if (tree.kind(k) == Kind.PARAMETER && tree.value(k) == name) {
                    return true;
                }
            }
            return false;
        }

        /** The directive comes behind the head, so what the head may not have is told at the body's {. */
        private void makeStrict(int made, int body) {
            if (code.strict) {
                return;
            }
            code.strict = true;
            boolean named = tree.kind(made) == Kind.FUNCTION || tree.value(made) != 0;
            boolean allowed = !named || mayBeBound(tree.where(made) + 1);
            for (int k = made + 1; allowed && k < body; k++) {
                allowed = mayBeBound(tree.where(k)) && !hasParameter(made, k, tree.value(k));
            }
            if (!allowed) {
                refuse(tree.where(body));
            }
        }

        private boolean mayBeBound(int i) {
            return tokens.identifier(i, true) && !Tokens.evalOrArguments(tokens.name(i));
        }

        // ---- statements

        /** A statement; the labels from the first label on stand directly ahead of it. */
        private void statement(int depth, int firstLabel) {
            guard(depth);
            switch (tokens.keyword(at)) {
                case Word.VAR:
                    variables(depth, true);
                    semicolon();
                    return;
                case Word.IF:
                    ifStatement(depth);
                    return;
                case Word.DO:
                    doStatement(depth, firstLabel);
                    return;
                case Word.WHILE:
                    whileStatement(depth, firstLabel);
                    return;
                case Word.FOR:
                    int loop = openFor(firstLabel);
                    if (atWord(Word.VAR)) {
                        variables(depth, false);
                    } else {
                        forInitial(depth);
                    }
                    forRest(loop, depth);
                    return;
                case Word.CONTINUE:
                case Word.BREAK:
                    jump(atWord(Word.BREAK) ? Kind.BREAK : Kind.CONTINUE);
                    return;
                case Word.RETURN:
                    returnStatement(depth);
                    return;
                case Word.WITH:
                    withStatement(depth);
                    return;
                case Word.SWITCH:
                    switchStatement(depth);
                    return;
                case Word.THROW:
                    throwStatement(depth);
                    return;
                case Word.TRY:
                    tryStatement(depth);
                    return;
                case Word.DEBUGGER:
                    debuggerStatement();
                    return;
                default:
                    break;
            }
            if (atSign(Sign.CURLY_OPEN)) {
                block(depth);
            } else if (atSign(Sign.SEMICOLON)) {
                emptyStatement();
            } else if (atIdentifier() && tokens.sign(at + 1) == Sign.COLON) {
                labelled(depth, firstLabel);
            } else {
                expressionStatement(depth);
            }
        }

        private void block(int depth) {
            guard(depth);
            int made = tree.open(Kind.BLOCK, 0, at);
            expect(Sign.CURLY_OPEN);
            for (int n = 0; n <= Tokens.MOST && !accept(Sign.CURLY_CLOSE); n++) {
                statement(depth + 1, labels.count());
            }
            tree.close(made);
        }

        private void emptyStatement() {
            tree.open(Kind.EMPTY, 0, at);
            at++;
        }

        private void debuggerStatement() {
            tree.open(Kind.DEBUGGER, 0, at);
            at++;
            semicolon();
        }

        private void expressionStatement(int depth) {
            if (atWord(Word.FUNCTION)) {
                refuse(at);
            }
            int made = tree.open(Kind.EXPRESSION, 0, at);
            expression(COMMA, depth + 1, true);
            semicolon();
            tree.close(made);
        }

        private void labelled(int depth, int firstLabel) {
            guard(depth + 1);
            int name = tokens.name(at);
            if (labels.find(code.firstLabel, name) != Labels.NO_LABEL) {
                refuse(at);
            }
            int made = tree.open(Kind.LABELLED, name, at);
            at += 2;
            labels.push(name);
            statement(depth + 1, firstLabel);
            labels.pop();
            tree.close(made);
        }

        /** The declarations of var; in the head of a for no operator in is part of their expressions. */
        private void variables(int depth, boolean in) {
            int made = tree.open(Kind.VAR, 0, at);
            boolean more = true;
            for (int n = 0; n <= Tokens.MOST && more; n++) {
                at++;
                int declared = tree.open(Kind.DECLARATION, 0, at);
                tree.setValue(declared, boundName());
                if (accept(Sign.ASSIGN)) {
                    expression(ASSIGN, depth + 1, in);
                }
                tree.close(declared);
                more = atSign(Sign.COMMA);
            }
            tree.close(made);
        }

        private void ifStatement(int depth) {
            int made = tree.open(Kind.IF, 0, at);
            at++;
            expect(Sign.ROUND_OPEN);
            expression(COMMA, depth + 1, true);
            expect(Sign.ROUND_CLOSE);
            statement(depth + 1, labels.count());
            if (atWord(Word.ELSE)) {
                at++;
                statement(depth + 1, labels.count());
            }
            tree.close(made);
        }

        private void doStatement(int depth, int firstLabel) {
            labels.markAsLoops(firstLabel);
            int made = tree.open(Kind.DO, 0, at);
            at++;
            code.loops++;
            statement(depth + 1, labels.count());
            code.loops--;
            expectWord(Word.WHILE);
            expect(Sign.ROUND_OPEN);
            expression(COMMA, depth + 1, true);
            expect(Sign.ROUND_CLOSE);
            semicolon();
            tree.close(made);
        }

        private void whileStatement(int depth, int firstLabel) {
            labels.markAsLoops(firstLabel);
            int made = tree.open(Kind.WHILE, 0, at);
            at++;
            expect(Sign.ROUND_OPEN);
            expression(COMMA, depth + 1, true);
            expect(Sign.ROUND_CLOSE);
            code.loops++;
            statement(depth + 1, labels.count());
            code.loops--;
            tree.close(made);
        }

        private int openFor(int firstLabel) {
            labels.markAsLoops(firstLabel);
            int made = tree.open(Kind.FOR, 0, at);
            at++;
            expect(Sign.ROUND_OPEN);
            return made;
        }

        private void forInitial(int depth) {
            if (atSign(Sign.SEMICOLON)) {
                tree.open(Kind.NONE, 0, at);
            } else {
                expression(COMMA, depth + 1, false);
            }
        }

        /** What comes behind the initial of a for: only here it is known whether it is a for-in. */
        private void forRest(int made, int depth) {
            if (atWord(Word.IN)) {
                if (!mayTakeKeys(made + 1)) {
                    refuse(at);
                }
                tree.setKind(made, Kind.FOR_IN);
                at++;
                expression(COMMA, depth + 1, true);
            } else {
                expect(Sign.SEMICOLON);
                if (atSign(Sign.SEMICOLON)) {
                    tree.open(Kind.NONE, 0, at);
                } else {
                    expression(COMMA, depth + 1, true);
                }
                expect(Sign.SEMICOLON);
                if (atSign(Sign.ROUND_CLOSE)) {
                    tree.open(Kind.NONE, 0, at);
                } else {
                    expression(COMMA, depth + 1, true);
                }
            }
            expect(Sign.ROUND_CLOSE);
            code.loops++;
            statement(depth + 1, labels.count());
            code.loops--;
            tree.close(made);
        }

        private boolean mayTakeKeys(int initial) {
            if (tree.kind(initial) == Kind.VAR) {
                return tree.children(initial) == 1;
            }
            return assignable(initial);
        }

        /** A continue or break: its target is looked at before the token behind it is. */
        private void jump(int kind) {
            int word = at;
            int made = tree.open(kind, 0, word);
            at++;
            if (atIdentifier() && !tokens.line(at)) {
                int label = labels.find(code.firstLabel, tokens.name(at));
                boolean fits = kind == Kind.BREAK || labels.ofLoop(label);
                if (label == Labels.NO_LABEL || !fits) {
                    refuse(at);
                }
                tree.setValue(made, tokens.name(at) + 1);
                at++;
            } else if (code.loops == 0 && (kind == Kind.CONTINUE || code.switches == 0)) {
                refuse(word);
            }
            semicolon();
        }

        private void returnStatement(int depth) {
            if (!code.function) {
                refuse(at);
            }
            int made = tree.open(Kind.RETURN, 0, at);
            at++;
            if (!statementEnds()) {
                expression(COMMA, depth + 1, true);
            }
            semicolon();
            tree.close(made);
        }

        private void throwStatement(int depth) {
            int made = tree.open(Kind.THROW, 0, at);
            at++;
            if (tokens.line(at)) {
                refuse(at);
            }
            expression(COMMA, depth + 1, true);
            semicolon();
            tree.close(made);
        }

        private void withStatement(int depth) {
            if (code.strict) {
                refuse(at);
            }
            int made = tree.open(Kind.WITH, 0, at);
            at++;
            expect(Sign.ROUND_OPEN);
            expression(COMMA, depth + 1, true);
            expect(Sign.ROUND_CLOSE);
            statement(depth + 1, labels.count());
            tree.close(made);
        }

        private void switchStatement(int depth) {
            int made = tree.open(Kind.SWITCH, 0, at);
            at++;
            expect(Sign.ROUND_OPEN);
            expression(COMMA, depth + 1, true);
            expect(Sign.ROUND_CLOSE);
            expect(Sign.CURLY_OPEN);
            code.switches++;
            boolean hasDefault = false;
            for (int n = 0; n <= Tokens.MOST && !accept(Sign.CURLY_CLOSE); n++) {
                boolean isDefault = atWord(Word.DEFAULT);
                int clause = openClause(isDefault, hasDefault);
                hasDefault = hasDefault || isDefault;
                if (!isDefault) {
                    expression(COMMA, depth + 1, true);
                }
                expect(Sign.COLON);
                for (int m = 0; m <= Tokens.MOST && !atClauseEnd(); m++) {
                    statement(depth + 1, labels.count());
                }
                tree.close(clause);
            }
            code.switches--;
            tree.close(made);
        }

        private int openClause(boolean isDefault, boolean hasDefault) {
            if (isDefault && hasDefault) {
                refuse(at);
            }
            int clause = tree.open(isDefault ? Kind.DEFAULT : Kind.CASE, 0, at);
            expectWord(isDefault ? Word.DEFAULT : Word.CASE);
            return clause;
        }

        private boolean atClauseEnd() {
            return atWord(Word.CASE) || atWord(Word.DEFAULT) || atSign(Sign.CURLY_CLOSE);
        }

        private void tryStatement(int depth) {
            int made = tree.open(Kind.TRY, 0, at);
            at++;
            block(depth + 1);
            if (!atWord(Word.CATCH) && !atWord(Word.FINALLY)) {
                refuse(at);
            }
            if (atWord(Word.CATCH)) {
                int caught = tree.open(Kind.CATCH, 0, at);
                at++;
                expect(Sign.ROUND_OPEN);
                tree.setValue(caught, boundName());
                expect(Sign.ROUND_CLOSE);
                block(depth + 1);
                tree.close(caught);
            }
            if (atWord(Word.FINALLY)) {
                int last = tree.open(Kind.FINALLY, 0, at);
                at++;
                block(depth + 1);
                tree.close(last);
            }
            tree.close(made);
        }

        // ---- expressions

        /** An expression that takes in what the level allows; whether an operator in is part of it. */
        private void expression(int level, int depth, boolean in) {
            guard(depth);
            int start = tree.count();
            int prefix = level < CALLED_BY_NEW ? prefixOperator() : NO_PREFIX;
            if (prefix != NO_PREFIX) {
                prefix(prefix, depth);
            } else if (atSign(Sign.ROUND_OPEN)) {
                group(depth);
            } else if (atSign(Sign.SQUARE_OPEN)) {
                array(depth);
            } else if (atSign(Sign.CURLY_OPEN)) {
                object(depth);
            } else if (atWord(Word.FUNCTION)) {
                function(Kind.FUNCTION_EXPRESSION, depth);
            } else if (atWord(Word.NEW)) {
                construction(depth);
            } else {
                leaf();
            }
            if (prefix == NO_PREFIX) {
                tails(start, depth, level < CALLED_BY_NEW);
            }
            if (level <= HIGHEST_BINARY) {
                binaries(start, Math.max(level, LOWEST_BINARY), depth, in);
            }
            if (level <= ASSIGN) {
                conditional(start, depth, in);
                assignment(start, depth, in);
            }
            if (level == COMMA) {
                commas(start, depth, in);
            }
        }

        private int prefixOperator() {
            switch (tokens.keyword(at)) {
                case Word.DELETE:
                    return DELETE;
                case Word.VOID:
                    return 1;
                case Word.TYPEOF:
                    return 2;
                default:
                    break;
            }
            switch (tokens.sign(at)) {
                case Sign.INCREASE:
                    return INCREASE;
                case Sign.DECREASE:
                    return DECREASE;
                case Sign.PLUS:
                    return 5;
                case Sign.MINUS:
                    return 6;
                case Sign.TILDE:
                    return 7;
                case Sign.NOT:
                    return 8;
                default:
                    return NO_PREFIX;
            }
        }

        private void prefix(int operator, int depth) {
            int where = at;
            int made = tree.open(Kind.PREFIX, operator, where);
            at++;
            expression(UNARY, depth + 1, true);
            tree.close(made);
            boolean writes = operator == INCREASE || operator == DECREASE;
            boolean deletes = operator == DELETE && code.strict;
            if (writes && !assignable(made + 1) || deletes && tree.kind(made + 1) == Kind.NAME) {
                refuse(where);
            }
        }

        private void group(int depth) {
            at++;
            expression(COMMA, depth + 1, true);
            expect(Sign.ROUND_CLOSE);
        }

        private void array(int depth) {
            int made = tree.open(Kind.ARRAY, 0, at);
            at++;
            for (int n = 0; n <= Tokens.MOST && !accept(Sign.SQUARE_CLOSE); n++) {
                if (atSign(Sign.COMMA)) {
                    tree.open(Kind.NONE, 0, at);
                } else {
                    expression(ASSIGN, depth + 1, true);
                }
                if (!atSign(Sign.SQUARE_CLOSE)) {
                    expect(Sign.COMMA);
                }
            }
            tree.close(made);
        }

        private void object(int depth) {
            int made = tree.open(Kind.OBJECT, 0, at);
            at++;
            for (int n = 0; n <= Tokens.MOST && nextProperty(n); n++) {
                int property = openProperty(made);
                int kind = tree.kind(property);
                if (kind == Kind.DATA) {
                    expression(ASSIGN, depth + 1, true);
                } else {
                    function(kind, depth);
                }
                tree.close(property);
            }
            tree.close(made);
        }

        /** Takes a property up to the : of a data one, or the name of an accessor. */
        private int openProperty(int object) {
            int where = at;
            int kind = propertyKind();
            if (kind != Kind.DATA) {
                at++;
            }
            int nameAt = at;
            if (!tokens.propertyName(nameAt)) {
                refuse(nameAt);
            }
            at++;
            if (kind == Kind.DATA) {
                expect(Sign.COLON);
            }
            int name = tokens.name(nameAt);
            if (clashes(object, kind, name)) {
                refuse(nameAt);
            }
            return tree.open(kind, name, where);
        }

        private int propertyKind() {
            boolean accessor = tokens.kind(at) == Tokens.NAME && tokens.propertyName(at + 1);
            if (accessor && tokens.name(at) == Tokens.GET) {
                return Kind.GETTER;
            }
            if (accessor && tokens.name(at) == Tokens.SET) {
                return Kind.SETTER;
            }
            return Kind.DATA;
        }

        private boolean clashes(int object, int kind, int name) {
            int end = tree.count();
            int k = object + 1;
            for (int n = 0; n < end && k < end; n++) {
                if (tree.value(k) == name && kindsClash(tree.kind(k), kind)) {
                    return true;
                }
                k = tree.behind(k);
            }
            return false;
        }

        private boolean kindsClash(int earlier, int later) {
            if (earlier == Kind.DATA && later == Kind.DATA) {
                return code.strict;
            }
            return earlier == later || earlier == Kind.DATA || later == Kind.DATA;
        }

        private void construction(int depth) {
            int made = tree.open(Kind.NEW, 0, at);
            at++;
            expression(CALLED_BY_NEW, depth + 1, true);
            if (accept(Sign.ROUND_OPEN)) {
                for (int n = 0; n <= Tokens.MOST && nextArgument(n); n++) {
                    expression(ASSIGN, depth + 1, true);
                }
            }
            tree.close(made);
        }

        private void leaf() {
            int kind = leafKind();
            switch (kind) {
                case Kind.NONE:
                    refuse(at);
                    break;
                case Kind.NAME:
                    tree.open(kind, tokens.name(at), at);
                    break;
                case Kind.NUMBER:
                case Kind.TEXT:
                case Kind.PATTERN:
                    tree.open(kind, literals, at);
                    literals++;
                    break;
                default:
                    tree.open(kind, 0, at);
                    break;
            }
            at++;
        }

        /** The kind of the expression that the token here is alone, NONE if it cannot be one. */
        private int leafKind() {
            switch (tokens.kind(at)) {
                case Tokens.NAME:
                    return atIdentifier() ? Kind.NAME : wordKind();
                case Tokens.NUMBER:
                    return Kind.NUMBER;
                case Tokens.TEXT:
                    return Kind.TEXT;
                case Tokens.PATTERN:
                    return Kind.PATTERN;
                default:
                    return Kind.NONE;
            }
        }

        private int wordKind() {
            switch (tokens.keyword(at)) {
                case Word.THIS:
                    return Kind.THIS;
                case Word.TRUE:
                    return Kind.TRUE;
                case Word.FALSE:
                    return Kind.FALSE;
                case Word.NULL:
                    return Kind.NULL;
                default:
                    return Kind.NONE;
            }
        }

        /** What stands behind an operand: members, indexes, and, but for what new calls, calls and ++. */
        private void tails(int start, int depth, boolean calls) {
            boolean more = true;
            for (int n = 0; n <= Tokens.MOST && more; n++) {
                int where = at;
                if (accept(Sign.DOT)) {
                    member(start, where);
                } else if (accept(Sign.SQUARE_OPEN)) {
                    expression(COMMA, depth + 1, true);
                    expect(Sign.SQUARE_CLOSE);
                    tree.wrap(start, Kind.INDEX, 0, where);
                } else if (calls && accept(Sign.ROUND_OPEN)) {
                    for (int m = 0; m <= Tokens.MOST && nextArgument(m); m++) {
                        expression(ASSIGN, depth + 1, true);
                    }
                    tree.wrap(start, Kind.CALL, 0, where);
                } else {
                    more = false;
                }
            }
            if (calls) {
                postfix(start);
            }
        }

        private void member(int start, int where) {
            if (tokens.kind(at) != Tokens.NAME) {
                refuse(at);
            }
            tree.wrap(start, Kind.MEMBER, tokens.name(at), where);
            at++;
        }

        private void postfix(int start) {
            boolean increases = atSign(Sign.INCREASE);
            if (tokens.line(at) || !increases && !atSign(Sign.DECREASE)) {
                return;
            }
            if (!assignable(start)) {
                refuse(at);
            }
            tree.wrap(start, Kind.POSTFIX, increases ? INCREASE : DECREASE, at);
            at++;
        }

        private void binaries(int start, int lowest, int depth, boolean in) {
            int operator = binaryOperator(in);
            for (int n = 0; n <= Tokens.MOST && rank(operator) >= lowest; n++) {
                int where = at;
                at++;
                expression(rank(operator) + 1, depth + 1, in);
                tree.wrap(start, Kind.BINARY, operator, where);
                operator = binaryOperator(in);
            }
        }

        private static int rank(int operator) {
            return operator >= 0 && operator < RANKS.length ? RANKS[operator] : 0;
        }

        private void conditional(int start, int depth, boolean in) {
            int where = at;
            if (accept(Sign.QUESTION)) {
                expression(ASSIGN, depth + 1, true);
                expect(Sign.COLON);
                expression(ASSIGN, depth + 1, in);
                tree.wrap(start, Kind.CONDITIONAL, 0, where);
            }
        }

        private void assignment(int start, int depth, boolean in) {
            int where = at;
            int sign = tokens.sign(where);
            if (sign >= Sign.ASSIGN && sign <= Sign.LAST_ASSIGN) {
                if (!assignable(start)) {
                    refuse(where);
                }
                at++;
                expression(ASSIGN, depth + 1, in);
                tree.wrap(start, Kind.ASSIGN, sign - Sign.ASSIGN, where);
            }
        }

        private void commas(int start, int depth, boolean in) {
            int where = at;
            for (int n = 0; n <= Tokens.MOST && accept(Sign.COMMA); n++) {
                expression(ASSIGN, depth + 1, in);
                tree.wrap(start, Kind.COMMA, 0, where);
                where = at;
            }
        }

        private boolean assignable(int k) {
            int kind = tree.kind(k);
            if (kind == Kind.NAME) {
                return !(code.strict && Tokens.evalOrArguments(tree.value(k)));
            }
            return kind == Kind.MEMBER || kind == Kind.INDEX;
        }
    }
}
