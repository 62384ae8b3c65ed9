import java.math.BigInteger;
import java.util.ArrayDeque;
import java.util.ArrayList;
import java.util.Deque;
import java.util.List;
import java.util.regex.Matcher;
import java.util.regex.Pattern;

/**
 * A rule's text, judged token by token with a stack of what is open, and worked out by cutting the
 * tokens at the sign that binds least: another way than the class takes.
 */
final class PlainText {
    private static final Pattern TOKEN = Pattern.compile("[A-Za-z]+|[0-9]+|[^ ]", Pattern.DOTALL);

    private final List<String> tokens = new ArrayList<>();
    private int fault = 0;
    private int place = -1;

    // What is open: ( - and, for an if, i, t or e by the part of it that is being read.
    private final Deque<Character> open = new ArrayDeque<>();
    // Whether there was a < or = already: for the text, and for each of ( i t e that is open.
    private final Deque<Boolean> compared = new ArrayDeque<>();
    private boolean isOperandDue = true;
    private boolean isStartOfE = true;

    PlainText(String text) {
        compared.push(false);
        Matcher m = TOKEN.matcher(text);
        while (fault == 0 && m.find()) {
            judge(m.group(), m.start());
        }
        if (fault == 0 && (isOperandDue || open.stream().anyMatch(c -> c != 'e'))) {
            fault = 1;
            place = text.length();
        }
    }

    int fault() {
        return fault;
    }

    int place() {
        return place;
    }

    private void judge(String token, int at) {
        boolean stands = isOperandDue ? standsAsOperand(token) : standsBehindOperand(token);
        tokens.add(token);
        if (!stands) {
            fault = 1;
        } else if (isNumber(token) && new BigInteger(token).compareTo(BigInteger.valueOf(99999)) > 0) {
            fault = 2;
        } else if (tokens.size() > 60 || open.size() > 10) {
            fault = 3;
        }
        place = fault == 0 ? -1 : at;
    }

    private static boolean isNumber(String token) {
        return token.charAt(0) >= '0' && token.charAt(0) <= '9';
    }

    private static boolean isLetter(String token) {
        return token.equals("f") || token.equals("n") || token.equals("d");
    }

    private boolean standsAsOperand(String token) {
        if (isNumber(token) || isLetter(token)) {
            endOperand();
            return true;
        }
        if (token.equals("-")) {
            open.push('-');
            isStartOfE = false;
            return true;
        }
        if (token.equals("(") || token.equals("if") && isStartOfE) {
            begin(token.charAt(0));
            return true;
        }
        return false;
    }

    private void begin(char what) {
        open.push(what);
        compared.push(false);
        isOperandDue = true;
        isStartOfE = true;
    }

    private void endOperand() {
        while (!open.isEmpty() && open.peek() == '-') {
            open.pop();
        }
        isOperandDue = false;
    }

    private boolean standsBehindOperand(String token) {
        switch (token) {
            case "<":
            case "=":
                if (compared.pop()) {
                    return false;
                }
                compared.push(true);
                isOperandDue = true;
                isStartOfE = false;
                return true;
            case "+":
            case "-":
            case "*":
            case "/":
            case "%":
                isOperandDue = true;
                isStartOfE = false;
                return true;
            case "then":
                return ends('i', 't');
            case "else":
                return ends('t', 'e');
            case ")":
                return ends('(', ' ');
            default:
                return false;
        }
    }

    private boolean ends(char what, char next) {
        while (!open.isEmpty() && open.peek() == 'e') {
            open.pop();
            compared.pop();
        }
        if (open.isEmpty() || open.peek() != what) {
            return false;
        }
        open.pop();
        compared.pop();
        if (next == ' ') {
            endOperand();
        } else {
            begin(next);
        }
        return true;
    }

    // ---- its value ----

    int value(int f, int n, int d) {
        return value(tokens, f, n, d);
    }

    private static int value(List<String> e, int f, int n, int d) {
        if (e.get(0).equals("if")) {
            int then = find(e, 1, "then");
            int otherwise = find(e, then + 1, "else");
            List<String> chosen = value(e.subList(1, then), f, n, d) != 0
                ? e.subList(then + 1, otherwise) : e.subList(otherwise + 1, e.size());
            return value(chosen, f, n, d);
        }
        for (String signs : new String[] {"<=", "+-", "*/%"}) {
            int at = lastSign(e, signs);
            if (at > 0) {
                int left = value(e.subList(0, at), f, n, d);
                return work(e.get(at), left, value(e.subList(at + 1, e.size()), f, n, d));
            }
        }
        switch (e.get(0)) {
            case "-":
                return -value(e.subList(1, e.size()), f, n, d);
            case "(":
                return value(e.subList(1, e.size() - 1), f, n, d);
            case "f":
                return f;
            case "n":
                return n;
            case "d":
                return d;
            default:
                return new BigInteger(e.get(0)).intValueExact();
        }
    }

    private static int find(List<String> e, int from, String word) {
        int inside = 0;
        for (int i = from; i < e.size(); i++) {
            String token = e.get(i);
            if (token.equals(word) && inside == 0) {
                return i;
            }
            if (token.equals("(") || token.equals("if")) {
                inside++;
            } else if (token.equals(")") || token.equals("else")) {
                inside--;
            }
        }
        throw new IllegalStateException("no " + word);
    }

    // The last of these signs that stands between two operands, outside of brackets.
    private static int lastSign(List<String> e, String signs) {
        int inside = 0;
        for (int i = e.size() - 1; i > 0; i--) {
            String token = e.get(i);
            inside += token.equals(")") ? 1 : token.equals("(") ? -1 : 0;
            String ahead = e.get(i - 1);
            boolean isBehindOperand = ahead.equals(")") || isNumber(ahead) || isLetter(ahead);
            if (inside == 0 && isBehindOperand && token.length() == 1 && signs.contains(token)) {
                return i;
            }
        }
        return -1;
    }

    private static int work(String sign, int left, int right) {
        switch (sign) {
            case "+":
                return left + right;
            case "-":
                return left - right;
            case "*":
                return left * right;
            case "/":
                return right == 0 ? 0 : (int) ((long) left / right);
            case "%":
                return right == 0 ? 0 : (int) ((long) left % right);
            case "<":
                return left < right ? 1 : 0;
            default:
                return left == right ? 1 : 0;
        }
    }
}
