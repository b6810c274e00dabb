import java.math.BigDecimal;
import java.math.RoundingMode;
import java.util.ArrayList;
import java.util.List;
import java.util.Map;
import java.util.Set;
import java.util.TreeSet;
import java.util.regex.Matcher;
import java.util.regex.Pattern;

/** A rate's text read once more, for the model: without recursion, by frames of what is open, and by patterns. */
final class Text {
    static final class Node {
        int kind, number;
        int unit = -1;
        Node left, right;
        final List<int[]> steps = new ArrayList<>();
    }

    // What is open: the text itself (R), a bracket, the first or the second side of min and max.
    private static final class Frame {
        char type;
        Node pair, left, join;

        Frame(char type, Node pair) {
            this.type = type;
            this.pair = pair;
        }
    }

    private static final Pattern DIGITS = Pattern.compile("[0-9]+");
    private static final Pattern NUMBER = Pattern.compile("([0-9]+)(\\.([0-9]*))?");
    private static final Pattern WORD = Pattern.compile("[a-z]+");

    int bad = -1;
    final List<Node> ordered = new ArrayList<>();
    private final String text;
    private final List<Frame> open = new ArrayList<>();
    private int place, nodes;

    Text(String text) {
        this.text = text;
        open.add(new Frame('R', null));
        boolean wantsPart = true;
        while (bad < 0 && !open.isEmpty()) {
            wantsPart = wantsPart ? part() : behindPart();
        }
        if (bad >= 0) {
            ordered.clear();
        }
    }

    private Frame top() {
        return open.get(open.size() - 1);
    }

    private char sign() {
        while (place < text.length() && text.charAt(place) == ' ') {
            place++;
        }
        return place < text.length() ? text.charAt(place) : '\n';
    }

    private void wrong(int where) {
        if (bad < 0) {
            bad = where;
        }
    }

    private Node node(int kind) {
        if (nodes == 60) {
            wrong(place);
        }
        nodes++;
        Node n = new Node();
        n.kind = kind;
        return n;
    }

    private void sign(char want) {
        if (bad < 0 && sign() != want) {
            wrong(place);
        }
        place++;
    }

    // Answers whether a part is wanted next.
    private boolean part() {
        char c = sign();
        if (c == '(') {
            goDeeper(new Frame('(', null));
            place++;
            return true;
        }
        if (c >= '0' && c <= '9') {
            number();
            return false;
        }
        Matcher m = WORD.matcher(text).region(place, text.length());
        String word = m.lookingAt() ? m.group() : "";
        switch (word) {
            case "free":
                Node free = node(0);
                place += 4;
                value(free);
                return false;
            case "step":
                steps();
                return false;
            case "min":
            case "max":
                Node pair = node(word.equals("min") ? 5 : 6);
                goDeeper(new Frame('1', pair));
                place += 3;
                sign('(');
                return true;
            default:
                wrong(place);
                return false;
        }
    }

    private void goDeeper(Frame f) {
        if (open.size() == 13) {
            wrong(place);
        }
        open.add(f);
    }

    private void number() {
        Node n = node(1);
        Matcher m = NUMBER.matcher(text).region(place, text.length());
        m.lookingAt();
        String behind = m.group(3);
        if (m.group(1).length() > 5 || behind != null && (behind.isEmpty() || behind.length() > 3)) {
            wrong(place);
            return;
        }
        n.number = new BigDecimal(m.group()).movePointRight(3).intValueExact();
        place = m.end();
        if (sign() == '%') {
            place++;
        } else {
            sign('/');
            char unit = sign();
            if (unit < 'A' || unit > 'H') {
                wrong(place);
            }
            n.kind = 2;
            n.unit = unit - 'A';
            place++;
        }
        value(n);
    }

    private int whole() {
        sign();
        Matcher m = DIGITS.matcher(text).region(Math.min(place, text.length()), text.length());
        if (bad >= 0 || !m.lookingAt() || m.group().length() > 6) {
            wrong(place);
            return 0;
        }
        place = m.end();
        return Integer.parseInt(m.group());
    }

    private void steps() {
        Node n = node(7);
        place += 4;
        sign('(');
        n.number = whole();
        sign(':');
        do {
            if (!n.steps.isEmpty()) {
                place++;
            }
            sign();
            int start = place;
            int[] row = {whole(), 0};
            sign('=');
            row[1] = whole();
            boolean rises = n.steps.isEmpty() || n.steps.get(n.steps.size() - 1)[0] < row[0];
            if (!rises || n.steps.size() == 6) {
                wrong(start);
            }
            n.steps.add(row);
        } while (bad < 0 && sign() == ',');
        sign(')');
        value(n);
    }

    private void value(Node n) {
        Frame f = top();
        if (f.join != null) {
            f.join.left = f.left;
            f.join.right = n;
            f.left = f.join;
            f.join = null;
        } else {
            f.left = n;
        }
    }

    private boolean behindPart() {
        char c = sign();
        Frame f = top();
        if (c == '+' || c == '-') {
            f.join = node(c == '+' ? 3 : 4);
            place++;
            return true;
        }
        if (c == ',' && f.type == '1') {
            f.pair.left = f.left;
            f.type = '2';
            f.left = null;
            place++;
            return true;
        }
        if (c == ')' && (f.type == '(' || f.type == '2')) {
            open.remove(open.size() - 1);
            if (f.type == '2') {
                f.pair.right = f.left;
            }
            value(f.type == '2' ? f.pair : f.left);
            place++;
            return false;
        }
        if (c == '\n' && f.type == 'R') {
            open.clear();
            number(f.left);
            return false;
        }
        wrong(place);
        return false;
    }

    private void number(Node n) {
        ordered.add(n);
        if (n.left != null) {
            number(n.left);
            number(n.right);
        }
    }

    Set<Integer> units() {
        Set<Integer> all = new TreeSet<>();
        ordered.stream().filter(n -> n.unit >= 0).forEach(n -> all.add(n.unit));
        return all;
    }

    String print(Node n) {
        String number = BigDecimal.valueOf(n.number, 3).stripTrailingZeros().toPlainString();
        switch (n.kind) {
            case 0:
                return "free";
            case 1:
                return number + "%";
            case 2:
                return number + "/" + (char) ('A' + n.unit);
            case 3:
            case 4:
                boolean bracket = n.right.kind == 3 || n.right.kind == 4;
                return print(n.left) + (n.kind == 3 ? " + " : " - ") + (bracket ? "(" : "") + print(n.right)
                        + (bracket ? ")" : "");
            case 7:
                StringBuilder s = new StringBuilder("step(" + n.number + ":");
                for (int[] row : n.steps) {
                    s.append(row == n.steps.get(0) ? " " : ", ").append(row[0]).append('=').append(row[1]);
                }
                return s + ")";
            default:
                return (n.kind == 5 ? "min(" : "max(") + print(n.left) + ", " + print(n.right) + ")";
        }
    }

    /** In micros; the amounts in thousandths. */
    BigDecimal value(Node n, BigDecimal price, Map<Integer, BigDecimal> amounts) {
        BigDecimal number = BigDecimal.valueOf(n.number, 3);
        switch (n.kind) {
            case 0:
                return BigDecimal.ZERO;
            case 1:
                return price.multiply(number).movePointLeft(2).movePointRight(6);
            case 2:
                return amounts.get(n.unit).movePointLeft(3).multiply(number).movePointRight(6);
            case 3:
                return value(n.left, price, amounts).add(value(n.right, price, amounts));
            case 4:
                return value(n.left, price, amounts).subtract(value(n.right, price, amounts));
            case 5:
                return value(n.left, price, amounts).min(value(n.right, price, amounts));
            case 6:
                return value(n.left, price, amounts).max(value(n.right, price, amounts));
            default:
                return BigDecimal.valueOf(stepCents(n, price)).movePointRight(6);
        }
    }

    private static int stepCents(Node n, BigDecimal price) {
        if (price.signum() == 0) {
            return n.steps.get(n.steps.size() - 1)[1];
        }
        BigDecimal q = BigDecimal.valueOf(100L * n.number).divide(price, 0, RoundingMode.FLOOR);
        int cents = 0;
        for (int[] row : n.steps) {
            cents = BigDecimal.valueOf(row[0]).compareTo(q) <= 0 ? row[1] : cents;
        }
        return cents;
    }
}
