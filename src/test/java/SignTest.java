/** Terms, the signs: what each of them is ahead of, behind and between operands. */
public final class SignTest {
    private static final int[] A = {1, -1, 4, 0};
    private static final int[] B = {1, -1, 5, 0};

    private SignTest() {
    }

    public static void main(String[] args) {
        for (int sign = 1; sign <= 74; sign++) {
            boolean operator = sign <= 13 || sign >= 16 && sign <= 23;
            boolean assignment = sign == 30 || sign >= 33 && sign <= 35 || sign >= 46 && sign <= 53;
            if (operator || assignment || sign >= 60) {
                alone(sign);
                ahead(sign);
                between(sign, operator, assignment);
                betweenLines(sign, operator, assignment);
            }
        }
        divisionsWhereAnExpressionBegins();
        numbersOfSignsAreNotThoseOfWords();
        Check.end();
    }

    private static int[] sign(int sign, int line) {
        return new int[] {4, sign, 0, line};
    }

    private static void same(String what, String due, int[]... tokens) {
        Check.same(what, new Script(tokens).tree(), due);
    }

    /** The value of the PREFIX that the sign makes, -1 if it makes none. */
    private static int prefix(int sign) {
        switch (sign) {
            case 73:
                return 3;
            case 74:
                return 4;
            case 19:
                return 5;
            case 20:
                return 6;
            case 72:
                return 7;
            case 71:
                return 8;
            default:
                return -1;
        }
    }

    private static boolean opens(int sign) {
        return sign == 60 || sign == 62 || sign == 64;
    }

    private static void alone(int sign) {
        String due = sign == 67 ? "PROGRAM(EMPTY)" : "refused at " + (prefix(sign) >= 0 || opens(sign) ? 1 : 0);
        same("sign " + sign, due, sign(sign, 0));
        same("line, sign " + sign, due, sign(sign, 1));
    }

    private static void ahead(int sign) {
        String due = "refused at 0";
        if (sign == 67) {
            due = "PROGRAM(EMPTY EXPRESSION(NAME:4))";
        } else if (prefix(sign) >= 0) {
            due = "PROGRAM(EXPRESSION(PREFIX:" + prefix(sign) + "(NAME:4)))";
        } else if (opens(sign)) {
            due = "refused at 2";
        }
        same("sign " + sign + ", a", due, sign(sign, 0), A);
        same("sign " + sign + ", line, a", due, sign(sign, 0), new int[] {1, -1, 4, 1});
    }

    private static String joined(int sign, boolean operator, boolean assignment) {
        if (operator) {
            return "PROGRAM(EXPRESSION(BINARY:" + sign + "(NAME:4 NAME:5)))";
        }
        if (assignment) {
            String value = sign == 30 ? "" : ":" + (sign - 30);
            return "PROGRAM(EXPRESSION(ASSIGN" + value + "(NAME:4 NAME:5)))";
        }
        switch (sign) {
            case 66:
                return "PROGRAM(EXPRESSION(MEMBER:5(NAME:4)))";
            case 67:
                return "PROGRAM(EXPRESSION(NAME:4) EXPRESSION(NAME:5))";
            case 68:
                return "PROGRAM(EXPRESSION(COMMA(NAME:4 NAME:5)))";
            case 70:
                return "PROGRAM(LABELLED:4(EXPRESSION(NAME:5)))";
            default:
                return "";
        }
    }

    private static void between(int sign, boolean operator, boolean assignment) {
        String due = joined(sign, operator, assignment);
        if (due.isEmpty()) {
            boolean unfinished = sign == 60 || sign == 62 || sign == 69;
            boolean postfix = sign == 73 || sign == 74;
            due = "refused at " + (unfinished ? 3 : postfix ? 2 : 1);
        }
        same("a, sign " + sign + ", b", due, A, sign(sign, 0), B);
    }

    private static void betweenLines(int sign, boolean operator, boolean assignment) {
        String due = joined(sign, operator, assignment);
        if (due.isEmpty() && prefix(sign) >= 0) {
            due = "PROGRAM(EXPRESSION(NAME:4) EXPRESSION(PREFIX:" + prefix(sign) + "(NAME:5)))";
        } else if (due.isEmpty()) {
            due = "refused at " + (opens(sign) || sign == 69 ? 3 : 1);
        }
        same("a, line, sign " + sign + ", b", due, A, sign(sign, 1), B);
    }

    private static void divisionsWhereAnExpressionBegins() {
        for (String sign : new String[] {"/", "/="}) {
            Script.refuses("`" + sign + " a");
            Script.refuses("a; `" + sign + " b /");
            Script.refuses("(`" + sign + " a)");
            Script.refuses("[`" + sign + " a]");
            Script.refuses("a(`" + sign + " b)");
            Script.refuses("a = `" + sign + " b");
            Script.refuses("a + `" + sign + " b");
            Script.refuses("a, `" + sign + " b");
            Script.refuses("- `" + sign + " b");
            Script.refuses("a ? `" + sign + " b");
            Script.refuses("({a: `" + sign + " b");
            Script.refuses("{} `" + sign + " a");
            Script.refuses("if (a) `" + sign + " b");
            Script.refuses("function f() { return `" + sign + " b");
            Script.refuses("function f() {} `" + sign + " b");
        }
        Script.means("a / b / c", "BINARY:22(BINARY:22(NAME:4 NAME:5) NAME:6)");
        Script.means("a /= b / c", "ASSIGN:22(NAME:4 BINARY:22(NAME:5 NAME:6))");
        Script.means("({}) / a", "BINARY:22(OBJECT NAME:4)");
        Script.means("@ / @", "BINARY:22(PATTERN PATTERN:1)");
        Script.means("a ++ / b", "BINARY:22(POSTFIX:3(NAME:4) NAME:5)");
        Script.refuses("a `@");
        Script.refuses("a.`@");
        Script.refuses("({`@: a})");
    }

    private static void numbersOfSignsAreNotThoseOfWords() {
        // instanceof and in are words 14 and 13, and the operators 14 and 15
        same("a instanceof b", "PROGRAM(EXPRESSION(BINARY:14(NAME:4 NAME:5)))", A, new int[] {1, 14, 6, 0}, B);
        same("a in b", "PROGRAM(EXPRESSION(BINARY:15(NAME:4 NAME:5)))", A, new int[] {1, 13, 6, 0}, B);
        same("a new b", "refused at 1", A, new int[] {1, 15, 6, 0}, B);
        // a text's word 1 is no sign ||, a number's word no sign at all
        same("a text b", "refused at 1", A, new int[] {3, 1, 6, 0}, B);
        same("a number b", "refused at 1", A, new int[] {2, 19, 6, 0}, B);
        same("a pattern b", "refused at 1", A, new int[] {5, 19, 6, 0}, B);
    }
}
