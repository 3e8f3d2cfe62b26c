/** What the tests share: comparing answers, and short ways to write a text and to read a print. */
final class Checks {
    interface Call {
        long answer();
    }

    static final Class<?> ARGUMENT = IllegalArgumentException.class;
    static final Class<?> STATE = IllegalStateException.class;
    static final Class<?> INDEX = IndexOutOfBoundsException.class;
    static final Class<?> UNSUPPORTED = UnsupportedOperationException.class;

    private static String sentence = "";
    private static int wrong = 0;
    private static int made = 0;

    private Checks() {
    }

    /** The sentence of the document that the checks from here on would find broken. */
    static void sentence(String quoted) {
        sentence = quoted;
    }

    static void due(String call, long got, long want) {
        same(call, Long.toString(got), Long.toString(want));
    }

    static void due(String call, boolean got, boolean want) {
        same(call, Boolean.toString(got), Boolean.toString(want));
    }

    static void same(String call, String got, String want) {
        made++;
        if (!got.equals(want)) {
            wrong++;
            if (wrong <= 50) {
                System.out.println("\"" + sentence + "\": " + call + " answered " + shown(got) + ", due is " + shown(want));
            }
        }
    }

    static void refused(String call, Class<?> want, Call tried) {
        same(call, outcome(tried), "throws." + want.getSimpleName());
    }

    /** A parser whose rules, from 0 on, are pairs of a head and symbols; all hints are 0, none is IN. */
    static KindParser grammar(int... pairs) {
        KindParser p = new KindParser();
        for (int at = 0; at + 1 < pairs.length; at += 2) {
            p.rule(pairs[at], pairs[at + 1], 0, false);
        }
        return p;
    }

    /** What a call answers, or the exception that it throws, as a text. */
    static String outcome(Call call) {
        try {
            return Long.toString(call.answer());
        } catch (RuntimeException e) {
            return "throws." + e.getClass().getSimpleName();
        }
    }

    static String shown(String text) {
        return text.replace("\n", "\\n");
    }

    /** Writes a text in pieces of at most eight; how many characters there are then. */
    static int type(KindParser p, String text) {
        int length = 0;
        for (int from = 0; from < text.length(); from += 8) {
            String piece = text.substring(from, Math.min(text.length(), from + 8));
            length = p.write(packed(piece), piece.length());
        }
        return length;
    }

    static long packed(String piece) {
        long eight = 0;
        for (int at = piece.length() - 1; at >= 0; at--) {
            eight = eight << 8 | piece.charAt(at);
        }
        return eight;
    }

    static int retype(KindParser p, String text) {
        p.erase();
        return type(p, text);
    }

    static int repaired(KindParser p, String text) {
        retype(p, text);
        return p.repair();
    }

    static String printed(KindParser p, int width) {
        int length = p.print(width);
        StringBuilder page = new StringBuilder();
        for (int i = 0; i < length; i++) {
            page.append((char) p.character(i));
        }
        refused("character behind the print", INDEX, () -> p.character(length));
        return page.toString();
    }

    static String page(KindParser p) {
        StringBuilder page = new StringBuilder();
        String next = outcome(() -> p.character(0));
        while (!next.startsWith("throws")) {
            page.append((char) Integer.parseInt(next));
            int i = page.length();
            next = outcome(() -> p.character(i));
        }
        return page.toString();
    }

    /** One part as "rule symbol parent first tokens cost state". */
    static String part(KindParser p, int k) {
        StringBuilder row = new StringBuilder();
        for (int what = 0; what < 7; what++) {
            row.append(what == 0 ? "" : " ").append(p.part(k, what));
        }
        return row.toString();
    }

    static String tree(KindParser p) {
        StringBuilder rows = new StringBuilder();
        for (int k = 0; k < p.parts(); k++) {
            rows.append(k == 0 ? "" : "; ").append(part(p, k));
        }
        return rows.toString();
    }

    /** Each token as "sign length comments", and the END's row behind them. */
    static String tokenRows(KindParser p) {
        StringBuilder rows = new StringBuilder();
        for (int k = 0; k <= p.tokens(); k++) {
            rows.append(k == 0 ? "" : "; ").append(p.token(k, 0)).append(' ')
                    .append(p.token(k, 1)).append(' ').append(p.token(k, 2));
        }
        return rows.toString();
    }

    /** All that can be asked without changing anything. */
    static String state(KindParser p) {
        StringBuilder all = new StringBuilder();
        for (int what = 0; what < 3; what++) {
            all.append(p.count(what)).append(' ');
        }
        for (int kind = 9; kind <= 14; kind++) {
            all.append(p.grounded(kind) ? 'g' : '-');
        }
        all.append(" rest ").append(outcome(p::rest));
        all.append(" tokens ").append(p.tokens());
        if (p.parts() > 0) {
            all.append(" [").append(tokenRows(p)).append(']');
        }
        all.append(" parts ").append(p.parts()).append(" [").append(tree(p)).append("] page ");
        return all.append(page(p)).toString();
    }

    /** What an object still answers when it is used on, so that its text and rules are seen, too. */
    static String future(KindParser p) {
        StringBuilder all = new StringBuilder(state(p));
        all.append(" / print ").append(outcome(() -> p.print(4))).append(' ').append(page(p));
        all.append(" / repair ").append(outcome(p::repair)).append(' ').append(state(p));
        all.append(" / print ").append(outcome(() -> p.print(4))).append(' ').append(page(p));
        all.append(" / write ").append(outcome(() -> p.write('b', 1)));
        all.append(" / erase ").append(outcome(p::erase));
        all.append(" / rule ").append(outcome(() -> p.rule(9, 0, 0, false)));
        return all.append(" / repair ").append(outcome(p::repair)).append(' ').append(state(p)).toString();
    }

    static void end() {
        System.out.println(wrong == 0 ? "all " + made + " answers are as due" : wrong + " answers are not as due");
        if (wrong != 0) {
            System.exit(1);
        }
    }
}
