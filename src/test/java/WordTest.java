import java.util.ArrayList;
import java.util.List;

/** Terms, the tokens: which words are reserved, and what the numbers of names stand for. */
public final class WordTest {
    private static final int THIS = 18;
    private static final int NULL = 26;
    private static final int TRUE = 27;
    private static final int FALSE = 28;
    private static final int EVAL = 0;
    private static final int ARGUMENTS = 1;
    private static final int GET = 2;
    private static final int SET = 3;
    private static final int[] STRICT = {3, 1, 900, 0};

    private WordTest() {
    }

    public static void main(String[] args) {
        wordsAsOperands();
        wordsAsBoundNames();
        wordsAsLabels();
        wordsAsProperties();
        wordsWithAnEscapeAreNoKeywords();
        evalAndArguments();
        getAndSet();
        namesOfAllKindsAreTheSame();
        firstAndLastNames();
        directives();
        Check.end();
    }

    private static int[] word(int word, int name) {
        return new int[] {1, word, name, 0};
    }

    private static int[] name(int name) {
        return word(-1, name);
    }

    private static int[] number(int name) {
        return new int[] {2, 0, name, 0};
    }

    private static int[] text(int name) {
        return new int[] {3, 0, name, 0};
    }

    /** The text's tokens, with the given ones in place of each $ in turn. */
    private static Script with(String text, int[]... given) {
        List<int[]> tokens = new ArrayList<>();
        int taken = 0;
        int start = 0;
        for (int mark = text.indexOf('$'); mark >= 0; mark = text.indexOf('$', start)) {
            tokens.addAll(new Script(text.substring(start, mark)).tokens);
            tokens.add(given[taken]);
            taken++;
            start = mark + 1;
        }
        tokens.addAll(new Script(text.substring(start)).tokens);
        return new Script(tokens.toArray(new int[0][]));
    }

    private static void same(String text, String due, int[]... given) {
        StringBuilder what = new StringBuilder(text);
        for (int[] t : given) {
            what.append(" <").append(t[0]).append(' ').append(t[1]).append(' ').append(t[2]).append('>');
        }
        Check.same(what.toString(), with(text, given).tree(), due);
    }

    private static void accepted(String text, int[]... given) {
        String got = with(text, given).tree();
        boolean tree = got.startsWith("PROGRAM") && !got.contains("but");
        Check.same(text + " <" + given[0][1] + " " + given[0][2] + ">", tree ? "a tree" : got, "a tree");
    }

    private static void refused(String text, int place, int[]... given) {
        same(text, "refused at " + place, given);
    }

    private static boolean always(int word) {
        int plain = word >= 100 ? word - 100 : word;
        return plain >= 0 && plain <= 35;
    }

    private static boolean strictly(int word) {
        return (word >= 100 ? word - 100 : word) >= 0;
    }

    private interface ForWord {
        void check(int word);
    }

    private static void everyWord(ForWord check) {
        for (int word = -1; word <= 44; word++) {
            check.check(word);
        }
        for (int word = 100; word <= 144; word++) {
            check.check(word);
        }
    }

    private static void wordsAsOperands() {
        everyWord(word -> {
            String kind = word == THIS ? "THIS" : word == NULL ? "NULL" : word == TRUE ? "TRUE" : word == FALSE ? "FALSE" : "";
            // delete, function, new, typeof and void begin an expression, which is not through then
            boolean begins = word == 6 || word == 11 || word == 15 || word == 21 || word == 23;
            if (!always(word)) {
                same("a = $", "PROGRAM(EXPRESSION(ASSIGN(NAME:4 NAME:5)))", word(word, 5));
            } else if (!kind.isEmpty()) {
                same("a = $", "PROGRAM(EXPRESSION(ASSIGN(NAME:4 " + kind + ")))", word(word, 5));
            } else {
                refused("a = $", begins ? 3 : 2, word(word, 5));
            }
            if (!strictly(word)) {
                accepted("$; a = $", STRICT, word(word, 5));
            } else if (kind.isEmpty() && !begins) {
                refused("$; a = $", 4, STRICT, word(word, 5));
            }
        });
    }

    private static void bound(String text, int place, int word) {
        if (always(word)) {
            refused(text, place, word(word, 5));
        } else {
            accepted(text, word(word, 5));
        }
        if (strictly(word)) {
            refused("$; " + text, place + 2, STRICT, word(word, 5));
        } else {
            accepted("$; " + text, STRICT, word(word, 5));
        }
    }

    private static void wordsAsBoundNames() {
        everyWord(word -> {
            bound("var $", 1, word);
            bound("var a = b, $ = c", 5, word);
            bound("for (var $ in a) ;", 3, word);
            bound("function $() {}", 1, word);
            bound("function a($) {}", 3, word);
            bound("function a(c, $) {}", 5, word);
            bound("(function $() {})", 2, word);
            bound("({set a($) {}})", 5, word);
            bound("try {} catch ($) {}", 5, word);
        });
    }

    private static void wordsAsLabels() {
        for (int word : new int[] {-1, 29, 35, 36, 44, 100, 118, 128, 129, 135, 136, 144}) {
            bound("$: ;", 0, word);
        }
        everyWord(word -> {
            if (!always(word)) {
                same("$: while (a) break $", "PROGRAM(LABELLED:5(WHILE(NAME:4 BREAK:6)))", word(word, 5), name(5));
                same("$: while (a) continue $", "PROGRAM(LABELLED:5(WHILE(NAME:4 CONTINUE:6)))", name(5), word(word, 5));
            } else {
                refused("b: while (a) break $", 7, word(word, 5));
                refused("b: while (a) continue $", 7, word(word, 5));
            }
        });
    }

    private static void wordsAsProperties() {
        everyWord(word -> {
            for (int[] ahead : new int[][] {STRICT, text(900)}) {
                int[] used = word(word, 999);
                String strict = ahead == STRICT ? "PROGRAM:1" : "PROGRAM";
                String first = strict + "(EXPRESSION(TEXT) EXPRESSION(";
                same("$; a.$", first + "MEMBER:999(NAME:4)))", ahead, used);
                same("$; ({$: a})", first + "OBJECT(DATA:999(NAME:4))))", ahead, used);
                String body = ahead == STRICT ? "BODY:1" : "BODY";
                same("$; ({get $() {}})", first + "OBJECT(GETTER:999(FUNCEXPR(" + body + ")))))", ahead, used);
                same("$; ({set $(a) {}})", first + "OBJECT(SETTER:999(FUNCEXPR(PARAMETER:4 " + body + ")))))", ahead, used);
            }
        });
    }

    private static void wordsWithAnEscapeAreNoKeywords() {
        for (int word = 100; word <= 135; word++) {
            refused("$", 0, word(word, 5));
            refused("$ a", 0, word(word, 5));
            refused("$ (a) ;", 0, word(word, 5));
            refused("$: a", 0, word(word, 5));
            refused("while (a) $", 4, word(word, 5));
            refused("a $ b", 1, word(word, 5));
            refused("for (a $ b) ;", 3, word(word, 5));
            refused("if (a) ; $ ;", 5, word(word, 5));
            refused("do ; $ (a)", 2, word(word, 5));
            refused("try {} $ (a) {}", 3, word(word, 5));
            refused("switch (a) { $ : }", 5, word(word, 5));
            refused("function f() { $ }", 5, word(word, 5));
        }
    }

    private static void evalAndArguments() {
        int[] words = {-1, 36, 44, 136, 144};
        for (int word : words) {
            for (int unit : new int[] {EVAL, ARGUMENTS}) {
                accepted("$ = a; var b; ++ $; $ --; for ($ in a) ;", word(word, unit), name(unit), name(unit), name(unit));
                accepted("function $($) {} try {} catch ($) {}", word(word, unit), word(word, unit), word(word, unit));
                refused("function $() { $ }", 4, word(word, unit), STRICT);
                refused("function f($) { $ }", 5, word(word, unit), STRICT);
            }
        }
        for (int unit = 0; unit <= 5; unit++) {
            boolean forbidden = unit <= ARGUMENTS;
            strictUse("$; $ = a", unit, forbidden ? 3 : -1);
            strictUse("$; $ += a", unit, forbidden ? 3 : -1);
            strictUse("$; ($) = a", unit, forbidden ? 5 : -1);
            strictUse("$; $ ++", unit, forbidden ? 3 : -1);
            strictUse("$; -- $", unit, forbidden ? 2 : -1);
            strictUse("$; for ($ in a) ;", unit, forbidden ? 5 : -1);
            strictUse("$; var $", unit, forbidden ? 3 : -1);
            strictUse("$; for (var $ in a) ;", unit, forbidden ? 5 : -1);
            strictUse("$; function $() {}", unit, forbidden ? 3 : -1);
            strictUse("$; function f($) {}", unit, forbidden ? 5 : -1);
            strictUse("$; (function $() {})", unit, forbidden ? 4 : -1);
            strictUse("$; ({set a($) {}})", unit, forbidden ? 7 : -1);
            strictUse("$; try {} catch ($) {}", unit, forbidden ? 7 : -1);
            strictUse("$; $: break $", unit, -1);
            strictUse("$; $($).$[$]", unit, -1);
            strictUse("$; $.a = $[b] = c", unit, -1);
            strictUse("$; a.$ = 1", unit, -1);
            strictUse("$; ({$: a, get c() {}})", unit, -1);
        }
    }

    private static void strictUse(String text, int unit, int place) {
        int[][] given = {STRICT, name(unit), name(unit), name(unit), name(unit)};
        if (place >= 0) {
            refused(text, place, given);
        } else {
            accepted(text, given);
        }
    }

    private static void getAndSet() {
        everyWord(word -> {
            same("({$ a() {}})", "PROGRAM(EXPRESSION(OBJECT(GETTER:4(FUNCEXPR(BODY)))))", word(word, GET));
            same("({$ a(b) {}})", "PROGRAM(EXPRESSION(OBJECT(SETTER:4(FUNCEXPR(PARAMETER:5 BODY)))))", word(word, SET));
            same("({$: a})", "PROGRAM(EXPRESSION(OBJECT(DATA:2(NAME:4))))", word(word, GET));
            same("({$: a})", "PROGRAM(EXPRESSION(OBJECT(DATA:3(NAME:4))))", word(word, SET));
            refused("({$ a() {}})", 3, word(word, ARGUMENTS));
            refused("({$ a() {}})", 3, word(word, 4));
        });
        for (int unit = 0; unit <= 4; unit++) {
            refused("({$ a() {}})", 3, number(unit));
            refused("({$ a(b) {}})", 3, text(unit));
        }
        same("({$ $() {}})", "PROGRAM(EXPRESSION(OBJECT(GETTER:2(FUNCEXPR(BODY)))))", name(GET), name(GET));
        same("({$ $() {}})", "PROGRAM(EXPRESSION(OBJECT(GETTER:3(FUNCEXPR(BODY)))))", name(GET), text(SET));
        same("({$ $(a) {}})", "PROGRAM(EXPRESSION(OBJECT(SETTER:2(FUNCEXPR(PARAMETER:4 BODY)))))", name(SET), number(GET));
    }

    private static void namesOfAllKindsAreTheSame() {
        int[][] kinds = {name(999), word(12, 999), word(112, 999), number(999), text(999), {3, 1, 999, 0}};
        int[][] others = {name(998), word(12, 998), number(998), text(998)};
        for (int[] first : kinds) {
            for (int[] second : kinds) {
                accepted("({$: a, $: b})", first, second);
                refused("$; ({$: a, $: b})", 8, STRICT, first, second);
                refused("({$: a, get $() {}})", 7, first, second);
                refused("({set $(b) {}, $: a})", 10, first, second);
                refused("({get $() {}, get $() {}})", 10, first, second);
                accepted("({get $() {}, set $(a) {}})", first, second);
            }
            for (int[] second : others) {
                accepted("$; ({$: a, $: b})", STRICT, first, second);
                accepted("({$: a, get $() {}})", first, second);
                accepted("({get $() {}, get $() {}})", first, second);
            }
        }
    }

    private static void firstAndLastNames() {
        for (int unit : new int[] {0, 1, 2, 3, 4, 998, 999}) {
            String value = unit == 0 ? "" : ":" + unit;
            String more = ":" + (unit + 1);
            same("$", "PROGRAM(EXPRESSION(NAME" + value + "))", name(unit));
            same("var $", "PROGRAM(VAR(DECLARATION" + value + "))", name(unit));
            same("a.$", "PROGRAM(EXPRESSION(MEMBER" + value + "(NAME:4)))", name(unit));
            same("$: break $", "PROGRAM(LABELLED" + value + "(BREAK" + more + "))", name(unit), name(unit));
            same("$: for (;;) continue $",
                "PROGRAM(LABELLED" + value + "(FOR(NONE NONE NONE CONTINUE" + more + ")))", name(unit), name(unit));
            same("function $($) {}", "PROGRAM(FUNCTION" + value + "(PARAMETER" + value + " BODY))", name(unit), name(unit));
            same("(function $() {})", "PROGRAM(EXPRESSION(FUNCEXPR" + more + "(BODY)))", name(unit));
            same("try {} catch ($) {}", "PROGRAM(TRY(BLOCK CATCH" + value + "(BLOCK)))", name(unit));
            same("({$: a})", "PROGRAM(EXPRESSION(OBJECT(DATA" + value + "(NAME:4))))", number(unit));
            same("({get $() {}})", "PROGRAM(EXPRESSION(OBJECT(GETTER" + value + "(FUNCEXPR(BODY)))))", text(unit));
            same("({set $(a) {}})", "PROGRAM(EXPRESSION(OBJECT(SETTER" + value + "(FUNCEXPR(PARAMETER:4 BODY)))))", name(unit));
            // as an expression a literal has its own number, not that of its name
            same("$", "PROGRAM(EXPRESSION(NUMBER))", number(unit));
            same("$", "PROGRAM(EXPRESSION(TEXT))", text(unit));
        }
    }

    private static void directives() {
        for (int unit : new int[] {0, 1, 4, 999}) {
            same("$", "PROGRAM:1(EXPRESSION(TEXT))", new int[] {3, 1, unit, 0});
            same("$", "PROGRAM(EXPRESSION(TEXT))", new int[] {3, 0, unit, 0});
            refused("$; with (a) ;", 2, new int[] {3, 1, unit, 0});
            accepted("$; with (a) ;", new int[] {3, 0, unit, 0});
            // the word of a number is of no matter
            same("$", "PROGRAM(EXPRESSION(NUMBER))", new int[] {2, 1, unit, 0});
        }
        same("({$: a})", "PROGRAM(EXPRESSION(OBJECT(DATA:900(NAME:4))))", STRICT);
        same("a = $", "PROGRAM(EXPRESSION(ASSIGN(NAME:4 TEXT)))", STRICT);
    }
}
