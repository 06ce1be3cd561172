import java.util.ArrayDeque;
import java.util.Deque;
import java.util.Random;

/** Promise 3: random texts, right and wrong, whose answers are compared with those of a table of what may follow. */
final class GrammarTest {
    private static final int TEXTS = 5000;
    private static final String SIGNS = "ax?=sfSFp!rtgwl0123456789(),<=>:+-~ q";

    // The seed is fixed, so that each run makes the same texts.
    private static final Random random = new Random(3);

    /** What is still expected: a sign of the table below, and the depth of the nodes that it stands for. */
    private record Expected(char sign, int depth) {
    }

    private static Deque<Expected> stack;
    private static int nodes;

    public static void main(String[] args) {
        BehaviorRunner runner = new BehaviorRunner();
        int trees = 0;
        for (int i = 0; i < TEXTS; i++) {
            // An object is used for 512 calls at most.
            runner = i % 7 == 0 ? new BehaviorRunner() : runner;
            String text = makeText();
            int due = answerDue(text);
            trees += due > 0 ? 1 : 0;
            Check.due("readTree of " + text, Check.read(runner, text), due);
        }
        Check.due("there are right texts", trees > TEXTS / 10 ? 1 : 0, 1);
        Check.end();
    }

    /** A text in which each character mostly fits, with now and then one that may not. */
    private static String makeText() {
        StringBuilder text = new StringBuilder();
        int length = random.nextInt(71);
        int wrongAt = random.nextInt(100);
        for (int i = 0; i < length; i++) {
            char sign = SIGNS.charAt(random.nextInt(SIGNS.length()));
            for (int tries = 0; tries < 300 && i != wrongAt && halt(text.toString() + sign) <= i; tries++) {
                sign = SIGNS.charAt(random.nextInt(SIGNS.length()));
            }
            text.append(sign);
            if (answerDue(text.toString()) > 0 && random.nextInt(12) == 0) {
                break;
            }
        }
        return text.toString();
    }

    private static int answerDue(String text) {
        int halt = halt(text);
        if (halt < text.length()) {
            return -2000 - halt;
        }
        while (!stack.isEmpty() && "nET".indexOf(stack.peek().sign) >= 0) {
            stack.pop();
        }
        return stack.isEmpty() ? nodes : -2000 - halt;
    }

    /** The offset of the first character that does not fit, or the length. */
    private static int halt(String text) {
        stack = new ArrayDeque<>();
        stack.push(new Expected('N', 1));
        nodes = 0;
        for (int i = 0; i < text.length(); i++) {
            if (!take(text.charAt(i))) {
                return i;
            }
        }
        return text.length();
    }

    private static boolean take(char c) {
        while (!stack.isEmpty()) {
            Expected top = stack.pop();
            boolean digit = c >= '0' && c <= '9';
            switch (top.sign) {
                case 'N':
                    return takeNode(c, top.depth);
                case 'D':
                    return digit;
                case 'P':
                    return digit && c != '0';
                case 'K':
                    return digit && c < '8';
                case 'C':
                    return "<=>".indexOf(c) >= 0;
                case 'A':
                    return ":+-".indexOf(c) >= 0;
                case '(':
                    return c == '(';
                case 'n':
                    if (digit) {
                        return true;
                    }
                    break;
                case 'E':
                    if (digit) {
                        expect("ADn", 0);
                        return c < '8';
                    }
                    break;
                case 'T':
                    if (c == '~') {
                        expect("KADn", 0);
                        return true;
                    }
                    break;
                default:
                    if (c == ',') {
                        expect("NM", top.depth);
                        return true;
                    }
                    return c == ')';
            }
        }
        return false;
    }

    private static boolean takeNode(char c, int depth) {
        String[] rest = {"DET", "DET", "KCDn", "KADn", "(NM", "(NM", "(NM", "(NM", "D(NM", "N", "PN", "PN", "KCDnN", "DN", "KN"};
        int kind = "ax?=sfSFp!rtgwl".indexOf(c);
        if (kind < 0 || depth > 10 || nodes >= 24) {
            return false;
        }
        nodes++;
        expect(rest[kind], depth + 1);
        return true;
    }

    private static void expect(String signs, int depth) {
        for (int i = signs.length() - 1; i >= 0; i--) {
            stack.push(new Expected(signs.charAt(i), depth));
        }
    }
}
