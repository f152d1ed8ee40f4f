import java.util.ArrayDeque;
import java.util.Deque;

/**
 * TEXTS for the model: a FAULT by going over the signs with a stack of what is open, a value by
 * climbing over the signs' ranks. The program does both by one descent through the rules.
 */
final class ModelText {
    private final String text;
    private final String names;
    private final int[] values;
    private int at = 0;

    private ModelText(String text, String names, int[] values) {
        this.text = text;
        this.names = names;
        this.values = values;
    }

    /** The FAULT, or -1 with none. */
    static int fault(String text, String names) {
        Deque<Character> open = new ArrayDeque<>();
        Deque<Boolean> compared = new ArrayDeque<>();
        compared.push(false);
        boolean wanted = true;
        int digits = 0;
        for (int i = 0; i < text.length(); i++) {
            char sign = text.charAt(i);
            boolean digit = sign >= '0' && sign <= '9';
            if (wanted && (sign == '!' || sign == '(')) {
                if (open.size() == 5) {
                    return i;
                }
                open.push(sign);
                if (sign == '(') {
                    compared.push(false);
                }
            } else if (wanted && (digit || names.indexOf(sign) >= 0)) {
                wanted = false;
                digits = digit ? 1 : 0;
                closeNots(open);
            } else if (wanted) {
                return i;
            } else if (digit) {
                if (digits == 0 || digits == 4) {
                    return i;
                }
                digits++;
            } else if (sign == ')') {
                if (open.isEmpty()) {
                    return i;
                }
                open.pop();
                compared.pop();
                closeNots(open);
                digits = 0;
            } else if ("<=>".indexOf(sign) >= 0) {
                if (compared.pop()) {
                    return i;
                }
                compared.push(true);
                wanted = true;
            } else if ("|&".indexOf(sign) >= 0) {
                compared.pop();
                compared.push(false);
                wanted = true;
            } else if ("+-*/%".indexOf(sign) >= 0) {
                wanted = true;
            } else {
                return i;
            }
        }
        return wanted || !open.isEmpty() ? text.length() : -1;
    }

    private static void closeNots(Deque<Character> open) {
        while (!open.isEmpty() && open.peek() == '!') {
            open.pop();
        }
    }

    /** What a TEXT without FAULT gives, not yet held. */
    static int value(String text, String names, int a, int b, int c) {
        return new ModelText(text, names, new int[] {a, b, c}).climb(1);
    }

    private static int rank(char sign) {
        switch (sign) {
            case '|': return 1;
            case '&': return 2;
            case '<':
            case '=':
            case '>': return 3;
            case '+':
            case '-': return 4;
            case '*':
            case '/':
            case '%': return 5;
            default: return 0;
        }
    }

    private int climb(int least) {
        int left = operand();
        while (at < text.length() && rank(text.charAt(at)) >= least) {
            char sign = text.charAt(at);
            at++;
            left = join(sign, left, climb(rank(sign) + 1));
        }
        return left;
    }

    private int operand() {
        char sign = text.charAt(at);
        at++;
        if (sign == '!') {
            return operand() == 0 ? 1 : 0;
        }
        if (sign == '(') {
            int value = climb(1);
            at++;
            return value;
        }
        if (names.indexOf(sign) >= 0) {
            return values[names.indexOf(sign)];
        }
        int start = at - 1;
        while (at < text.length() && Character.isDigit(text.charAt(at))) {
            at++;
        }
        return Integer.parseInt(text.substring(start, at));
    }

    private static int join(char sign, int left, int right) {
        switch (sign) {
            case '|': return left != 0 || right != 0 ? 1 : 0;
            case '&': return left != 0 && right != 0 ? 1 : 0;
            case '<': return left < right ? 1 : 0;
            case '=': return left == right ? 1 : 0;
            case '>': return left > right ? 1 : 0;
            case '+': return left + right;
            case '-': return left - right;
            case '*': return left * right;
            case '/': return right == 0 ? 0 : left / right;
            default: return right == 0 ? 0 : left % right;
        }
    }
}
