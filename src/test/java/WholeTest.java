import java.util.Random;

/** The document's first sentence, seen from outside: whatever the tree is, all of the text is in it and in its print. */
final class WholeTest {
    private static final String[] PIECES = {"a", "b", "c7", "d", "h10", "1", "?", "}", "{", "{x}", "{ }", "{a{1}", " ", "\n", "i"};
    private static final int RULES = 8;
    /** As many can be read by the calls that one object is good for. */
    private static final int MOST_PARTS = 80;
    private static final int MOST_CHARACTERS = 400;

    private final int[] heads = new int[RULES];
    private final int[] symbols = new int[RULES];
    private final int lastHints;
    private final boolean in;
    private final String text;

    private WholeTest(Random random) {
        for (int rule = 0; rule < RULES; rule++) {
            heads[rule] = 9 + random.nextInt(3);
            symbols[rule] = symbols(random);
        }
        lastHints = random.nextInt(3) << 6 | random.nextInt(3) << 4 | random.nextInt(3) << 2 | random.nextInt(3);
        in = random.nextBoolean();
        text = text(random);
    }

    public static void main(String[] args) {
        // of one seed, so that the runs are the same ones each time
        Random random = new Random(5);
        int repaired = 0;
        for (int run = 0; run < 2000; run++) {
            repaired += new WholeTest(random).play() ? 1 : 0;
        }
        Checks.sentence("the runs of this test");
        Checks.due("most texts are repaired", repaired > 1000, true);
        Checks.end();
    }

    private static int symbols(Random random) {
        int symbols = 0;
        for (int digits = random.nextInt(4); digits > 0; digits--) {
            symbols = symbols * 16 + (random.nextBoolean() ? 1 + random.nextInt(4) : 9 + random.nextInt(4));
        }
        return symbols;
    }

    private static String text(Random random) {
        StringBuilder text = new StringBuilder();
        for (int pieces = random.nextInt(18); pieces > 0; pieces--) {
            text.append(PIECES[random.nextInt(PIECES.length)]);
        }
        return text.toString();
    }

    /** A new object before its repair. */
    private KindParser made() {
        KindParser p = new KindParser();
        for (int rule = 0; rule < RULES; rule++) {
            p.rule(heads[rule], symbols[rule], 0, in);
        }
        p.rule(9, 0x1BA2C, lastHints, true);
        Checks.type(p, text);
        return p;
    }

    private boolean play() {
        KindParser p = made();
        String cost = Checks.outcome(p::repair);
        if (cost.startsWith("throws") || p.parts() > MOST_PARTS) {
            return false;
        }
        int[][] rows = rows(p);
        tokensAreInTheTree(p, rows);
        costsAddUp(p, rows, Integer.parseInt(cost));
        String tokens = Checks.tokenRows(p);
        for (int width : new int[] {1, 5, 10, 20, 100}) {
            textIsInThePrint(width, tokens);
        }
        return true;
    }

    /** Of each part whether it is a leaf, the part in which it is, its first token, how many, its cost. */
    private static int[][] rows(KindParser p) {
        int[][] rows = new int[p.parts()][];
        for (int k = 0; k < rows.length; k++) {
            rows[k] = new int[] {p.part(k, 0) == KindParser.NONE ? 1 : 0, p.part(k, 2), p.part(k, 3), p.part(k, 4), p.part(k, 5)};
        }
        return rows;
    }

    private static void tokensAreInTheTree(KindParser p, int[][] rows) {
        Checks.sentence("nothing of the text is lost in it");
        int next = 0;
        for (int k = 0; k < rows.length; k++) {
            Checks.due("the first token of part " + k, rows[k][2], next);
            next += rows[k][0] == 1 ? rows[k][3] : 0;
        }
        Checks.due("the tokens of all leaves", next, rows[0][3]);
        Checks.due("those of the tree and of the END", next + p.rest(), p.tokens());
    }

    private static void costsAddUp(KindParser p, int[][] rows, int cost) {
        Checks.sentence("A NODE .. stands for all of them, and costs what they cost");
        int[] tokens = new int[rows.length];
        int[] costs = new int[rows.length];
        for (int k = 1; k < rows.length; k++) {
            tokens[rows[k][1]] += rows[k][3];
            costs[rows[k][1]] += rows[k][4];
        }
        for (int k = 0; k < rows.length; k++) {
            if (rows[k][0] == 0) {
                Checks.due("the tokens of node " + k, rows[k][3], tokens[k]);
                Checks.due("the cost of node " + k, rows[k][4], costs[k]);
            }
        }
        Checks.due("the cost with the END's", rows[0][4] + p.rest(), cost);
    }

    private void textIsInThePrint(int width, String tokens) {
        Checks.sentence("nothing of the text is lost in it .. and the text is laid out anew");
        KindParser p = made();
        p.repair();
        if (p.print(width) > MOST_CHARACTERS) {
            return;
        }
        String print = Checks.printed(p, width);
        Checks.same("but for blanks, print(" + width + ")", withoutBlanks(print), withoutBlanks(text));
        if (print.length() <= 80) {
            KindParser again = Checks.grammar(9, 0);
            Checks.repaired(again, print);
            Checks.same("the print is cut into the tokens of the text", Checks.tokenRows(again), tokens);
        }
    }

    private static String withoutBlanks(String text) {
        return text.replace(" ", "").replace("\n", "");
    }
}
