/** PARTS of the terms; promises 8 (parts), 9 (part) and 10 (rest). */
final class PartsTest {
    public static void main(String[] args) {
        order();
        howMany();
        noneWithoutATree();
        ruleOfANode();
        symbol();
        partInWhichItIs();
        firstToken();
        howManyTokens();
        costs();
        stateOfALeaf();
        partsOfItsOwn();
        noSuchPart();
        noSuchWhat();
        noPartWithoutATree();
        rest();
        noRestWithoutATree();
        Checks.end();
    }

    /** 9 is a, 10 and b; 10 is c, 11 and d; 11 is nothing; a skips, c is missing, d good, b replaced. */
    private static KindParser example() {
        KindParser p = Checks.grammar(9, 0x1A2, 10, 0x3B4, 11, 0);
        Checks.due("repair", Checks.repaired(p, "? a d f"), 3);
        return p;
    }

    private static void column(int what, int... due) {
        KindParser p = example();
        for (int k = 0; k < due.length; k++) {
            Checks.due("part(" + k + ", " + what + ")", p.part(k, what), due[k]);
        }
        Checks.due("parts()", p.parts(), due.length);
    }

    private static void order() {
        Checks.sentence("PARTS are numbered from 0: the tree's node, then for each node its parts, "
                + "one after the other, each followed by its own parts.");
        KindParser p = Checks.grammar(9, 0xA1A, 10, 0xB2, 11, 0x33);
        Checks.due("repair", Checks.repaired(p, "ccbaccb"), 0);
        Checks.same("tree", Checks.tree(p), "0 9 -1 0 7 0 3; 1 10 0 0 3 0 2; 2 11 1 0 2 0 2; -1 3 2 0 1 0 0; "
                + "-1 3 2 1 1 0 0; -1 2 1 2 1 0 0; -1 1 0 3 1 0 0; 1 10 0 4 3 0 2; 2 11 7 4 2 0 2; -1 3 8 4 1 0 0; "
                + "-1 3 8 5 1 0 0; -1 2 7 6 1 0 0");
    }

    private static void howMany() {
        Checks.sentence("How many parts the tree has");
        KindParser one = Checks.grammar(9, 0);
        Checks.repaired(one, "aaa");
        Checks.due("a node alone", one.parts(), 1);
        KindParser leaf = Checks.grammar(9, 1);
        leaf.repair();
        Checks.due("with a missing leaf", leaf.parts(), 2);
        KindParser list = Checks.grammar(9, 0x19, 9, 0);
        for (int n = 0; n <= 16; n++) {
            Checks.repaired(list, "a".repeat(n));
            Checks.due("with " + n + " tokens", list.parts(), 2 * n + 1);
        }
    }

    private static void noneWithoutATree() {
        Checks.sentence("parts: .. 0 when there is none");
        KindParser p = new KindParser();
        Checks.due("of a new object", p.parts(), 0);
        p.rule(9, 1, 0, false);
        Checks.due("not repaired", p.parts(), 0);
        p.repair();
        Checks.due("repaired", p.parts(), 2);
        p.rule(9, 2, 0, false);
        Checks.due("a new rule", p.parts(), 0);
        p.repair();
        Checks.retype(p, "a".repeat(17));
        Checks.refused("repair", Checks.STATE, p::repair);
        Checks.due("a repair that failed", p.parts(), 0);
    }

    private static void ruleOfANode() {
        Checks.sentence("the rule of a node, NONE for a leaf (what 0)");
        column(0, 0, -1, 1, -1, 2, -1, -1);
    }

    private static void symbol() {
        Checks.sentence("its symbol (1)");
        column(1, 9, 1, 10, 3, 11, 4, 2);
    }

    private static void partInWhichItIs() {
        Checks.sentence("the part in which it is, NONE for the first (2)");
        column(2, -1, 0, 0, 2, 2, 2, 0);
    }

    private static void firstToken() {
        Checks.sentence("the first token that it stands for, or would (3)");
        column(3, 0, 0, 2, 2, 2, 2, 3);
        KindParser p = Checks.grammar(9, 0x12A3, 10, 0);
        Checks.repaired(p, "a");
        Checks.due("missing behind all tokens", p.part(2, 3), 1);
        Checks.due("an empty node there", p.part(3, 3), 1);
        Checks.repaired(p, "c");
        Checks.due("missing before all tokens", p.part(1, 3), 0);
        Checks.due("an empty node there", p.part(3, 3), 0);
        Checks.due("the leaf behind them", p.part(4, 3), 0);
    }

    private static void howManyTokens() {
        Checks.sentence("how many tokens (4)");
        column(4, 4, 2, 1, 0, 0, 1, 1);
        KindParser p = Checks.grammar(9, 1);
        Checks.repaired(p, "b".repeat(16));
        Checks.due("all of them", p.part(1, 4), 16);
        p.erase();
        p.repair();
        Checks.due("none", p.part(1, 4), 0);
    }

    private static void costs() {
        Checks.sentence("what it costs (5)");
        column(5, 3, 1, 1, 1, 0, 0, 1);
    }

    private static void stateOfALeaf() {
        Checks.sentence("for a leaf 0 good, 1 replaced, 2 missing");
        KindParser every = example();
        int[][] leaves = {{1, 0}, {3, 2}, {5, 0}, {6, 1}};
        for (int[] leaf : leaves) {
            Checks.due("part(" + leaf[0] + ", 6)", every.part(leaf[0], 6), leaf[1]);
        }
        KindParser p = Checks.grammar(9, 1);
        String[] texts = {"", "a", "b", "ba", "bb", "bba", "bbb", "?", "{x}"};
        int[] due = {2, 0, 1, 0, 1, 0, 1, 1, 2};
        for (int at = 0; at < texts.length; at++) {
            Checks.repaired(p, texts[at]);
            Checks.due("the leaf for " + texts[at], p.part(1, 6), due[at]);
        }
    }

    private static void partsOfItsOwn() {
        Checks.sentence("for a node how many parts it has itself (6)");
        KindParser p = Checks.grammar(9, 0xABCDE, 10, 0x1111, 11, 0x111, 12, 0x11, 13, 0x1, 14, 0);
        p.repair();
        int[] nodes = {0, 1, 6, 10, 13, 15};
        for (int at = 0; at < nodes.length; at++) {
            Checks.due("part(" + nodes[at] + ", 6)", p.part(nodes[at], 6), 5 - at);
        }
    }

    private static void noSuchPart() {
        Checks.sentence("part: IndexOutOfBoundsException, when there is none of these (no part k)");
        for (int length : new int[] {0, 1, 5}) {
            KindParser p = Checks.grammar(9, 0x11111 & (1 << 4 * length) - 1);
            p.repair();
            for (int k : new int[] {-1, length + 1, length + 2, Integer.MIN_VALUE, Integer.MAX_VALUE}) {
                for (int what = 0; what < 7; what++) {
                    int asked = what;
                    Checks.refused("part(" + k + ", " + what + ")", Checks.INDEX, () -> p.part(k, asked));
                }
            }
            Checks.due("the first", p.part(0, 6), length);
            Checks.due("the last", p.part(length, 4), 0);
        }
        KindParser most = Checks.grammar(14, 0x11111, 13, 0xEEEEE, 11, 0xEEEE, 9, 0xDDDDB);
        most.repair();
        Checks.due("part(149, 6)", most.part(149, 6), 2);
        Checks.refused("part(150, 6)", Checks.INDEX, () -> most.part(150, 6));
    }

    private static void noSuchWhat() {
        Checks.sentence("part: IndexOutOfBoundsException, when there is none of these (no what)");
        KindParser p = example();
        for (int what : new int[] {-1, -7, 7, 8, Integer.MIN_VALUE, Integer.MAX_VALUE}) {
            for (int k = 0; k < 7; k++) {
                int part = k;
                Checks.refused("part(" + k + ", " + what + ")", Checks.INDEX, () -> p.part(part, what));
            }
        }
        Checks.due("the first what", p.part(2, 0), 1);
        Checks.due("the last what", p.part(2, 6), 3);
    }

    private static void noPartWithoutATree() {
        Checks.sentence("part: IndexOutOfBoundsException, when there is none of these (no tree)");
        KindParser p = new KindParser();
        noPart(p);
        p.rule(9, 1, 0, false);
        noPart(p);
        p.repair();
        p.rule(9, 2, 0, false);
        noPart(p);
        p.repair();
        Checks.retype(p, "a".repeat(17));
        Checks.refused("repair", Checks.STATE, p::repair);
        noPart(p);
    }

    private static void noPart(KindParser p) {
        for (int k = -1; k <= 2; k++) {
            for (int what = -1; what <= 7; what++) {
                int part = k;
                int asked = what;
                Checks.refused("part(" + k + ", " + what + ")", Checks.INDEX, () -> p.part(part, asked));
            }
        }
    }

    private static void rest() {
        Checks.sentence("How many tokens the END skips.");
        KindParser p = Checks.grammar(9, 0);
        for (int n = 0; n <= 16; n++) {
            Checks.repaired(p, "a".repeat(n) + "{x}");
            Checks.due("all of " + n, p.rest(), n);
        }
        p.erase();
        Checks.due("behind erase", p.rest(), 16);
        KindParser one = Checks.grammar(9, 1);
        Checks.repaired(one, "a{x}");
        Checks.due("none", one.rest(), 0);
        Checks.repaired(one, "a".repeat(16));
        Checks.due("none, since the leaf skips 15", one.rest(), 0);
        Checks.repaired(one, "a" + "b".repeat(15));
        Checks.due("all but one", one.rest(), 15);
    }

    private static void noRestWithoutATree() {
        Checks.sentence("rest: IllegalStateException, when there is no tree");
        KindParser p = new KindParser();
        Checks.refused("of a new object", Checks.STATE, p::rest);
        p.rule(9, 1, 0, false);
        Checks.refused("not repaired", Checks.STATE, p::rest);
        p.repair();
        Checks.due("of an empty text", p.rest(), 0);
        p.rule(9, 2, 0, false);
        Checks.refused("a new rule", Checks.STATE, p::rest);
        p.repair();
        Checks.retype(p, "a".repeat(17));
        Checks.refused("repair", Checks.STATE, p::repair);
        Checks.refused("a repair that failed", Checks.STATE, p::rest);
    }
}
