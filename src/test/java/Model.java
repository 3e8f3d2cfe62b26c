import java.util.ArrayList;
import java.util.List;

/**
 * The document once more, in the plainest way: every way to share out the tokens is tried, all
 * values are improved until none changes, and a print is joined from texts. It is slow, and it
 * shares nothing with the class that is tested.
 */
final class Model {
    /** While it is laid out it may not be taken for the end of a line. */
    private static final char LINE_END_IN_COMMENT = 1;

    private static final class Rule {
        int head;
        int[] symbols;
        int[] hints;
        boolean in;
    }

    private static final class Token {
        int sign;
        String text = "";
        final List<String> comments = new ArrayList<>();

        String print() {
            return String.join(" ", comments) + (comments.isEmpty() ? "" : " ") + text;
        }
    }

    private static final class Part {
        Rule rule;
        int number;
        int symbol;
        int parent;
        int first;
        int end;
        int cost;
        int state;
        final List<Part> own = new ArrayList<>();
    }

    /** The best way found so far to share out tokens among the symbols of some rule. */
    private static final class Way {
        int cost;
        int count;
        int rule;
        int[] ends;
    }

    private final List<Rule> rules = new ArrayList<>();
    private String text = "";
    private List<Token> tokens = null;
    private List<Part> parts = null;
    private int rest;
    private String page = "";
    private int repaired;
    private int spent;
    private Way[][][] best;

    int rule(int head, int symbols, int hints, boolean in) {
        String digits = symbols < 0 ? "x" : symbols == 0 ? "" : Integer.toString(symbols, 16);
        String marks = hints < 0 ? "x" : hints == 0 ? "" : Integer.toString(hints, 4);
        if (head < 9 || head > 14 || !digits.matches("[1-9a-e]{0,5}") || !marks.matches("[0-2]*")
                || marks.length() > Math.max(0, digits.length() - 1)) {
            throw new IllegalArgumentException();
        }
        if (rules.size() == 20) {
            throw new IllegalStateException();
        }
        Rule rule = new Rule();
        rule.head = head;
        rule.in = in;
        rule.symbols = new int[digits.length()];
        rule.hints = new int[digits.length()];
        for (int at = 0; at < digits.length(); at++) {
            rule.symbols[at] = Character.digit(digits.charAt(at), 16);
            int mark = at - (digits.length() - marks.length());
            rule.hints[at] = mark < 0 ? 0 : marks.charAt(mark) - '0';
        }
        rules.add(rule);
        parts = null;
        return rules.size() - 1;
    }

    int write(long eight, int n) {
        if (n < 1 || n > 8) {
            throw new IllegalArgumentException();
        }
        StringBuilder more = new StringBuilder();
        for (int at = 0; at < n; at++) {
            more.append((char) (eight >> 8 * at & 255));
        }
        if (!more.toString().matches("[\n -~]*")) {
            throw new IllegalArgumentException();
        }
        if (text.length() + n > 80) {
            throw new IllegalStateException();
        }
        text += more;
        return text.length();
    }

    int erase() {
        int had = text.length();
        text = "";
        return had;
    }

    int length() {
        return text.length();
    }

    int printed() {
        return page.length();
    }

    int repair() {
        if (!grounded(9)) {
            throw new UnsupportedOperationException();
        }
        parts = null;
        tokens = cut(text);
        int n = tokens.size() - 1;
        if (n > 16) {
            throw new IllegalStateException();
        }
        findBest(n);
        int end = -1;
        for (int j = 0; j <= n; j++) {
            Way way = best[0][0][j];
            if (way != null && (end < 0 || compareEnds(way, j, best[0][0][end], end) <= 0)) {
                end = j;
            }
        }
        List<Part> made = new ArrayList<>();
        grow(made, 9, 0, end, -1, 0);
        parts = made;
        rest = n - end;
        int cost = made.get(0).cost + rest;
        repaired++;
        spent += cost;
        return cost;
    }

    private static int compareEnds(Way one, int oneEnd, Way other, int otherEnd) {
        int byCost = Integer.compare(one.cost - oneEnd, other.cost - otherEnd);
        return byCost != 0 ? byCost : Integer.compare(one.count, other.count);
    }

    /** The tokens, and the END as the last. */
    private static List<Token> cut(String text) {
        List<Token> all = new ArrayList<>();
        Token next = new Token();
        String left = text;
        while (!left.isEmpty()) {
            char c = left.charAt(0);
            int length = 1;
            if (c == '{' && left.indexOf('}') > 0) {
                length = left.indexOf('}') + 1;
                next.comments.add(left.substring(0, length).replace('\n', LINE_END_IN_COMMENT));
            } else if (c != ' ' && c != '\n') {
                if ("abcdefgh".indexOf(c) >= 0) {
                    next.sign = "abcdefgh".indexOf(c) + 1;
                    length = left.length() - left.substring(1).replaceFirst("^[0-9]*", "").length();
                }
                next.text = left.substring(0, length);
                all.add(next);
                next = new Token();
            }
            left = left.substring(length);
        }
        all.add(next);
        return all;
    }

    private void findBest(int n) {
        best = new Way[6][n + 1][n + 1];
        boolean changed = true;
        while (changed) {
            changed = false;
            for (int number = 0; number < rules.size(); number++) {
                for (int i = 0; i <= n; i++) {
                    for (int j = i; j <= n; j++) {
                        changed |= tryWays(number, i, j);
                    }
                }
            }
        }
    }

    private boolean tryWays(int number, int i, int j) {
        Rule rule = rules.get(number);
        return share(number, rule, 0, i, i, j, 0, 1, new int[rule.symbols.length]);
    }

    private boolean share(int number, Rule rule, int at, int from, int i, int j, int cost, int count, int[] ends) {
        if (at == rule.symbols.length) {
            return from == j && offer(number, rule, i, j, cost, count, ends);
        }
        boolean changed = false;
        boolean last = at == rule.symbols.length - 1;
        for (int end = last ? j : from; end <= j; end++) {
            int symbol = rule.symbols[at];
            ends[at] = end;
            if (symbol < 9) {
                int more = leafCost(symbol, from, end);
                changed |= share(number, rule, at + 1, end, i, j, cost + more, count, ends);
            } else if (best[symbol - 9][from][end] != null) {
                Way way = best[symbol - 9][from][end];
                changed |= share(number, rule, at + 1, end, i, j, cost + way.cost, count + way.count, ends);
            }
        }
        return changed;
    }

    private int leafCost(int sign, int i, int j) {
        if (i == j) {
            return 1;
        }
        return j - i - 1 + (tokens.get(j - 1).sign == sign ? 0 : 1);
    }

    private boolean offer(int number, Rule rule, int i, int j, int cost, int count, int[] ends) {
        Way old = best[rule.head - 9][i][j];
        if (old != null && compare(old, cost, count, number, ends) <= 0) {
            return false;
        }
        Way way = new Way();
        way.cost = cost;
        way.count = count;
        way.rule = number;
        way.ends = ends.clone();
        best[rule.head - 9][i][j] = way;
        return true;
    }

    private static int compare(Way old, int cost, int count, int number, int[] ends) {
        if (old.cost != cost) {
            return Integer.compare(old.cost, cost);
        }
        if (old.count != count) {
            return Integer.compare(old.count, count);
        }
        if (old.rule != number) {
            return Integer.compare(old.rule, number);
        }
        // the last part ends where the node does; the fewer tokens it has, the later it begins
        for (int at = ends.length - 2; at >= 0; at--) {
            if (old.ends[at] != ends[at]) {
                return Integer.compare(ends[at], old.ends[at]);
            }
        }
        return 0;
    }

    private void grow(List<Part> made, int symbol, int i, int j, int parent, int within) {
        Part part = new Part();
        part.number = made.size();
        part.symbol = symbol;
        part.parent = parent;
        part.first = i;
        part.end = j;
        made.add(part);
        if (parent >= 0) {
            made.get(parent).own.add(part);
        }
        if (made.size() > 150 || symbol > 8 && within > 36) {
            throw new IllegalStateException();
        }
        if (symbol < 9) {
            part.cost = leafCost(symbol, i, j);
            part.state = i == j ? 2 : tokens.get(j - 1).sign == symbol ? 0 : 1;
            return;
        }
        Way way = best[symbol - 9][i][j];
        part.rule = rules.get(way.rule);
        part.state = part.rule.symbols.length;
        int from = i;
        for (int at = 0; at < part.state; at++) {
            grow(made, part.rule.symbols[at], from, way.ends[at], part.number, within + 1);
            part.cost += part.own.get(at).cost;
            from = way.ends[at];
        }
    }

    int tokens() {
        return parts == null ? 0 : tokens.size() - 1;
    }

    int token(int k, int what) {
        if (parts == null || k < 0 || k >= tokens.size() || what < 0 || what > 2) {
            throw new IndexOutOfBoundsException();
        }
        Token token = tokens.get(k);
        return what == 0 ? token.sign : what == 1 ? token.text.length() : token.comments.size();
    }

    int parts() {
        return parts == null ? 0 : parts.size();
    }

    int part(int k, int what) {
        if (parts == null || k < 0 || k >= parts.size() || what < 0 || what > 6) {
            throw new IndexOutOfBoundsException();
        }
        Part part = parts.get(k);
        int rule = part.rule == null ? -1 : rules.indexOf(part.rule);
        int[] all = {rule, part.symbol, part.parent, part.first, part.end - part.first, part.cost, part.state};
        return all[what];
    }

    int rest() {
        if (parts == null) {
            throw new IllegalStateException();
        }
        return rest;
    }

    int print(int width) {
        if (width < 1 || width > 100) {
            throw new IllegalArgumentException();
        }
        if (parts == null) {
            throw new IllegalStateException();
        }
        String tree = laid(parts.get(0), width, 0, 0);
        List<String> end = new ArrayList<>();
        for (int t = tokens.size() - 1 - rest; t < tokens.size() - 1; t++) {
            end.add(tokens.get(t).print());
        }
        end.addAll(tokens.get(tokens.size() - 1).comments);
        String behind = String.join(" ", end);
        page = tree + (tree.isEmpty() || behind.isEmpty() ? "" : "\n") + behind;
        page = page.replace(LINE_END_IN_COMMENT, '\n');
        return page.length();
    }

    private String leaf(Part part) {
        List<String> all = new ArrayList<>();
        for (int t = part.first; t < part.end; t++) {
            all.add(tokens.get(t).print());
        }
        return String.join(" ", all);
    }

    /** A width of 0 stands for a print in which nothing is broken. */
    private String laid(Part part, int width, int column, int indent) {
        if (part.rule == null) {
            return leaf(part);
        }
        boolean broken = width > 0 && laid(part, 0, 0, 0).length() > width - column;
        int inner = indent + (broken && part.rule.in ? 2 : 0);
        String print = "";
        int now = column;
        for (int at = 0; at < part.own.size(); at++) {
            Part own = part.own.get(at);
            String flat = laid(own, 0, 0, 0);
            if (flat.isEmpty()) {
                continue;
            }
            if (!print.isEmpty()) {
                int hint = part.rule.hints[at];
                if (hint == 2 && broken) {
                    print += "\n" + " ".repeat(inner);
                    now = inner;
                } else if (hint != 0 || Character.isDigit(flat.charAt(0))) {
                    print += " ";
                    now++;
                }
            }
            String piece = laid(own, broken ? width : 0, now, inner);
            int line = piece.lastIndexOf('\n');
            now = line < 0 ? now + piece.length() : piece.length() - line - 1;
            print += piece;
        }
        return print;
    }

    int character(int i) {
        if (i < 0 || i >= page.length()) {
            throw new IndexOutOfBoundsException();
        }
        return page.charAt(i);
    }

    boolean grounded(int kind) {
        boolean[] ground = new boolean[15];
        for (int step = 0; step < 10; step++) {
            for (Rule rule : rules) {
                boolean all = true;
                for (int symbol : rule.symbols) {
                    all &= symbol < 9 || ground[symbol];
                }
                ground[rule.head] |= all;
            }
        }
        return kind >= 9 && kind <= 14 && ground[kind];
    }

    int count(int what) {
        return what == 0 ? rules.size() : what == 1 ? repaired : what == 2 ? spent : -1;
    }
}
