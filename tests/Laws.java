import java.util.ArrayDeque;
import java.util.Random;

/**
 * Random texts of the law of frost. The class reads a text by going down its grammar and reckons
 * with a stack; here a text is read byte by byte with a stack of what is open, and reckoned by
 * splitting it at its loosest sign, so that a slip in one way is not a slip in the other.
 */
public final class Laws {
    private static final int TEXTS = 60000;
    private static final int MOST_BYTES = 120;
    private static final int NIGHTS = 12;
    private static final String[] RANKS = {"|", "&", "<=>", "+-", "*/%"};
    private static final String BYTES = "tpkz0129|&<=>+-*/%!((()))?;x";

    // The same numbers from the same start on every run.
    private static final Random DICE = new Random(5);

    public static void main(String[] args) {
        int texts = args.length > 0 ? Integer.parseInt(args[0]) : TEXTS;
        int faulty = 0;
        for (int i = 0; i < texts; i++) {
            String text = text();
            int fault = faultOf(text);
            WheelSkips x = new WheelSkips();
            for (char c : text.toCharArray()) x.feed(c);
            due(text, "law()", x.law(), fault < 0 ? 1 : -100 - fault);
            if (fault < 0) nights(x, text);
            else faulty++;
        }
        if (faulty == 0 || faulty == texts) due("all texts", "how many are faulty", faulty, texts / 2);
        System.out.println(texts + " texts of the law, " + faulty + " of them with a fault, are as due");
    }

    private static void due(String text, String call, long got, long want) {
        if (got == want) return;
        System.out.println("the law " + text + ": " + call + " answered " + got + ", due is " + want);
        System.exit(1);
    }

    /** Two wheels of frost alone show by their places when it is cold there. */
    private static void nights(WheelSkips x, String text) {
        int teeth = 2 + DICE.nextInt(4);
        int seed = DICE.nextInt();
        x.set(1, seed);
        for (int wheel = 0; wheel < 2; wheel++) {
            for (int i = 0; i < teeth; i++) x.feed('f');
            x.wheel();
        }
        int[] places = new int[2];
        for (int t = 1; t <= NIGHTS; t++) {
            boolean round = true;
            for (int k = 0; k < 2 && round; k++) {
                boolean cold = valueOfLaw(text, new int[] {t, places[k], k, seed}) != 0;
                if (!cold) places[k]++;
                round = places[k] == teeth;
                if (round) places[k] = 0;
            }
            x.on(1);
            for (int k = 0; k < 2; k++) due(text, "of(" + k + ", 1) in night " + t, x.of(k, 1), places[k]);
        }
    }

    // ---- texts

    private static String text() {
        StringBuilder text = new StringBuilder();
        int mood = DICE.nextInt(3);
        if (mood == 0) {
            int bytes = DICE.nextInt(14);
            for (int i = 0; i < bytes; i++) text.append(anyByte());
        } else {
            int lines = 1 + DICE.nextInt(3);
            for (int i = 0; i < lines; i++) {
                if (i > 0) text.append(';');
                if (DICE.nextBoolean()) text.append(sum(3)).append('?');
                text.append(sum(4));
            }
        }
        for (int i = mood == 2 ? DICE.nextInt(3) : -1; i >= 0; i--) {
            int at = DICE.nextInt(text.length());
            if (DICE.nextBoolean()) text.setCharAt(at, anyByte());
            else text.insert(at, anyByte());
        }
        if (text.length() > MOST_BYTES) text.setLength(MOST_BYTES);
        return text.toString();
    }

    private static char anyByte() {
        return BYTES.charAt(DICE.nextInt(BYTES.length()));
    }

    private static String sum(int depth) {
        switch (DICE.nextInt(depth <= 0 ? 5 : 14)) {
            case 0: return "t";
            case 1: return "p";
            case 2: return "k";
            case 3: return "z";
            case 4: return "" + DICE.nextInt(DICE.nextBoolean() ? 12 : 10000);
            case 5: return "(" + sum(depth - 1) + ")";
            case 6: return "!" + sum(depth - 1);
            case 7: return "-" + sum(depth - 1);
            case 8: return opened();
            default: return sum(depth - 1) + "|&<=>+-*/%".charAt(DICE.nextInt(10)) + sum(depth - 1);
        }
    }

    /** As many open at once as may be, one fewer, or one too many. */
    private static String opened() {
        StringBuilder text = new StringBuilder();
        int parts = 5 + DICE.nextInt(3);
        int toClose = 0;
        for (int i = 0; i < parts; i++) {
            char sign = "(!-".charAt(DICE.nextInt(3));
            if (sign == '(') toClose++;
            text.append(sign);
        }
        text.append("tpkz7".charAt(DICE.nextInt(5)));
        for (int i = 0; i < toClose; i++) text.append(')');
        return text.toString();
    }

    // ---- faults

    /** Whether the B that is read has its one comparison, for each ( that is open and the line itself. */
    private static final ArrayDeque<Boolean> compared = new ArrayDeque<>();
    private static final ArrayDeque<Character> open = new ArrayDeque<>();

    private static int faultOf(String text) {
        open.clear();
        freshExpression();
        boolean wantsO = true;
        boolean asked = false;
        int digits = 0;
        for (int i = 0; i < text.length(); i++) {
            char c = text.charAt(i);
            boolean digit = c >= '0' && c <= '9';
            if (wantsO && "(!-".indexOf(c) >= 0) {
                if (open.size() == 6) return i;
                open.push(c);
                if (c == '(') compared.push(false);
            } else if (wantsO) {
                if (!digit && "tpkz".indexOf(c) < 0) return i;
                digits = digit ? 1 : 4;
                wantsO = false;
                closeSigns();
            } else if (digit && digits < 4) {
                digits++;
            } else if (c == ')' && !open.isEmpty()) {
                open.pop();
                compared.pop();
                digits = 4;
                closeSigns();
            } else if (c == '?' && open.isEmpty() && !asked || c == ';' && open.isEmpty()) {
                asked = c == '?';
                wantsO = true;
                freshExpression();
            } else if (goesOn(c)) {
                wantsO = true;
            } else {
                return i;
            }
        }
        return wantsO || !open.isEmpty() ? text.length() : -1;
    }

    private static void freshExpression() {
        compared.clear();
        compared.push(false);
    }

    /** The ! and - ahead of an O are open no more behind it. */
    private static void closeSigns() {
        while (!open.isEmpty() && open.peek() != '(') open.pop();
    }

    private static boolean goesOn(char sign) {
        if ("+-*/%".indexOf(sign) >= 0) return true;
        boolean compares = "<=>".indexOf(sign) >= 0;
        if (!compares && sign != '|' && sign != '&') return false;
        if (compares && compared.peek()) return false;
        compared.pop();
        compared.push(compares);
        return true;
    }

    // ---- values

    private static int valueOfLaw(String law, int[] names) {
        for (String line : law.split(";")) {
            int asks = line.indexOf('?');
            if (asks < 0) return value(line, names);
            if (value(line.substring(0, asks), names) != 0) return value(line.substring(asks + 1), names);
        }
        return 0;
    }

    private static int value(String text, int[] names) {
        for (String rank : RANKS) {
            int at = lastSign(text, rank);
            if (at > 0) {
                int a = value(text.substring(0, at), names);
                return of(text.charAt(at), a, value(text.substring(at + 1), names));
            }
        }
        char first = text.charAt(0);
        if (first == '!') return value(text.substring(1), names) == 0 ? 1 : 0;
        if (first == '-') return -value(text.substring(1), names);
        if (first == '(') return value(text.substring(1, text.length() - 1), names);
        if (first == 'z') return (int) ((names[0] * 1103515245L + names[3] & 0xFFFFFFFFL) / 256 % 10);
        int name = "tpk".indexOf(first);
        return name >= 0 ? names[name] : Integer.parseInt(text);
    }

    /** The last sign of a rank outside of ( ), behind an O; 0 or less if there is none. */
    private static int lastSign(String text, String rank) {
        int depth = 0;
        for (int i = text.length() - 1; i > 0; i--) {
            char c = text.charAt(i);
            if (c == ')') depth++;
            if (c == '(') depth--;
            boolean behindO = text.charAt(i - 1) == ')' || Character.isLetterOrDigit(text.charAt(i - 1));
            if (depth == 0 && behindO && rank.indexOf(c) >= 0) return i;
        }
        return 0;
    }

    private static int of(char sign, int a, int b) {
        switch (sign) {
            case '|': return a != 0 || b != 0 ? 1 : 0;
            case '&': return a != 0 && b != 0 ? 1 : 0;
            case '<': return a < b ? 1 : 0;
            case '=': return a == b ? 1 : 0;
            case '>': return a > b ? 1 : 0;
            case '+': return a + b;
            case '-': return a - b;
            case '*': return a * b;
            case '/': return b == 0 ? 0 : a / b;
            default: return b == 0 ? 0 : a % b;
        }
    }
}
