/** REPAIRING of the terms; promises 5 (repair) and 14 (count). */
final class RepairTest {
    /** Each a is three nodes deep; at the end stands a, or b, or c in a kind of its own. */
    private static final int[] DEEP = {9, 0x1A, 10, 0xB, 11, 0x9, 9, 0x1, 9, 0x2, 12, 0x3, 9, 0xC};
    /** Each a is nine parts, each b ten, and what is behind them six. */
    private static final int[] WIDE = {9, 0xA9, 10, 0xB, 11, 0xC, 12, 0xD, 13, 0x1EEE, 13, 0x2EEEE, 9, 0xEEEEE, 14, 0};

    public static void main(String[] args) {
        missing();
        goodOrReplaced();
        skipped();
        nodes();
        emptyNodes();
        treeIsOfKindNine();
        theEnd();
        costsLeast();
        countsLeast();
        leavesCountNothing();
        greatestEnd();
        leastRule();
        fewestTokensLast();
        fewestTokensLastButOne();
        fewestTokensAndSoOn();
        kindsWithinThemselves();
        costWithTheEnd();
        noTreeBefore();
        notGrounded();
        moreThanSixteenTokens();
        moreThanAllowedParts();
        withinMoreThanAllowed();
        limitsDoNotChoose();
        noneAfterwards();
        countOfRules();
        countOfRepairs();
        countOfCosts();
        countOfAnother();
        Checks.end();
    }

    private static void repair(KindParser p, String text, int cost, int rest, String tree) {
        Checks.due("repair of " + text, Checks.repaired(p, text), cost);
        Checks.due("rest of " + text, p.rest(), rest);
        Checks.due("parts of " + text, p.parts(), tree.split("; ").length);
        Checks.same("tree of " + text, Checks.tree(p), tree);
    }

    private static void missing() {
        Checks.sentence("when j = i it is MISSING, which costs 1");
        KindParser p = Checks.grammar(9, 0x12);
        repair(p, "", 2, 0, "0 9 -1 0 0 2 2; -1 1 0 0 0 1 2; -1 2 0 0 0 1 2");
        repair(p, "a", 1, 0, "0 9 -1 0 1 1 2; -1 1 0 0 1 0 0; -1 2 0 1 0 1 2");
        repair(p, "b", 1, 0, "0 9 -1 0 1 1 2; -1 1 0 0 0 1 2; -1 2 0 0 1 0 0");
        KindParser five = Checks.grammar(9, 0x12345);
        Checks.due("all five", Checks.repaired(five, ""), 5);
        Checks.due("all but the one in the middle", Checks.repaired(five, "c"), 4);
        Checks.same("which is there", Checks.part(five, 3), "-1 3 0 0 1 0 0");
    }

    private static void goodOrReplaced() {
        Checks.sentence("token j - 1 is GOOD if it is of this sign, else REPLACED, which costs 1");
        KindParser p = Checks.grammar(9, 0x12);
        repair(p, "a b", 0, 0, "0 9 -1 0 2 0 2; -1 1 0 0 1 0 0; -1 2 0 1 1 0 0");
        repair(p, "c b", 1, 0, "0 9 -1 0 2 1 2; -1 1 0 0 1 1 1; -1 2 0 1 1 0 0");
        repair(p, "a c", 1, 0, "0 9 -1 0 2 1 2; -1 1 0 0 1 0 0; -1 2 0 1 1 1 1");
        repair(p, "? 1", 2, 0, "0 9 -1 0 2 2 2; -1 1 0 0 1 1 1; -1 2 0 1 1 1 1");
        repair(p, "a99 b0", 0, 0, "0 9 -1 0 2 0 2; -1 1 0 0 1 0 0; -1 2 0 1 1 0 0");
    }

    private static void skipped() {
        Checks.sentence("when j is above i, the tokens from i to j - 2 are SKIPPED, which costs 1 each");
        KindParser p = Checks.grammar(9, 0x12);
        repair(p, "a c b", 1, 0, "0 9 -1 0 3 1 2; -1 1 0 0 1 0 0; -1 2 0 1 2 1 0");
        repair(p, "? a b", 1, 0, "0 9 -1 0 3 1 2; -1 1 0 0 2 1 0; -1 2 0 2 1 0 0");
        repair(p, "? a c c b", 3, 0, "0 9 -1 0 5 3 2; -1 1 0 0 2 1 0; -1 2 0 2 3 2 0");
        KindParser one = Checks.grammar(9, 1);
        repair(one, "bbbbbbbbbbbbbbba", 15, 0, "0 9 -1 0 16 15 1; -1 1 0 0 16 15 0");
        repair(one, "bbbbbbbbbbbbbbbb", 16, 0, "0 9 -1 0 16 16 1; -1 1 0 0 16 16 1");
    }

    private static void nodes() {
        Checks.sentence("for each symbol of the rule a leaf or node, for tokens that follow one another; "
                + "it stands for all of them, and costs what they cost");
        KindParser p = Checks.grammar(9, 0x1A2A, 10, 0x34);
        repair(p, "a c x d b d", 2, 0, "0 9 -1 0 6 2 4; -1 1 0 0 1 0 0; 1 10 0 1 3 1 2; -1 3 2 1 1 0 0; -1 4 2 2 2 1 0; "
                + "-1 2 0 4 1 0 0; 1 10 0 5 1 1 2; -1 3 6 5 0 1 2; -1 4 6 5 1 0 0");
    }

    private static void emptyNodes() {
        Checks.sentence("A NODE is a kind with a rule of this head (a row of 0 symbols)");
        KindParser p = Checks.grammar(9, 0xAAAAA, 10, 0);
        repair(p, "", 0, 0, "0 9 -1 0 0 0 5; 1 10 0 0 0 0 0; 1 10 0 0 0 0 0; 1 10 0 0 0 0 0; 1 10 0 0 0 0 0; 1 10 0 0 0 0 0");
        KindParser between = Checks.grammar(9, 0xA1A2A, 10, 0);
        repair(between, "ab", 0, 0, "0 9 -1 0 2 0 5; 1 10 0 0 0 0 0; -1 1 0 0 1 0 0; 1 10 0 1 0 0 0; -1 2 0 1 1 0 0; 1 10 0 2 0 0 0");
    }

    private static void treeIsOfKindNine() {
        Checks.sentence("The TREE is a node of kind 9");
        KindParser p = Checks.grammar(10, 1, 14, 1, 9, 2);
        repair(p, "a", 1, 0, "2 9 -1 0 1 1 1; -1 2 0 0 1 1 1");
    }

    private static void theEnd() {
        Checks.sentence("that stands for the tokens from 0 to some j; the tokens from j on are skipped, too, "
                + "at 1 each, by the END");
        KindParser p = Checks.grammar(9, 0x12);
        repair(p, "a b c", 1, 1, "0 9 -1 0 2 0 2; -1 1 0 0 1 0 0; -1 2 0 1 1 0 0");
        repair(p, "a b a b", 2, 0, "0 9 -1 0 4 2 2; -1 1 0 0 3 2 0; -1 2 0 3 1 0 0");
        repair(p, "abcccccccccccccc", 14, 14, "0 9 -1 0 2 0 2; -1 1 0 0 1 0 0; -1 2 0 1 1 0 0");
        KindParser empty = Checks.grammar(9, 0);
        repair(empty, "", 0, 0, "0 9 -1 0 0 0 0");
        repair(empty, "{x}", 0, 0, "0 9 -1 0 0 0 0");
        repair(empty, "a", 1, 1, "0 9 -1 0 0 0 0");
        repair(empty, "aaaaaaaaaaaaaaaa", 16, 16, "0 9 -1 0 0 0 0");
    }

    private static void costsLeast() {
        Checks.sentence("Of all trees it is the one that costs least with the END");
        // not the one that counts least, nor that of the least rule, nor that of the greatest j
        KindParser p = Checks.grammar(9, 1, 9, 0xAA, 10, 2);
        repair(p, "bb", 0, 0, "1 9 -1 0 2 0 2; 2 10 0 0 1 0 1; -1 2 1 0 1 0 0; 2 10 0 1 1 0 1; -1 2 3 1 1 0 0");
        KindParser end = Checks.grammar(9, 0x11, 9, 0x2);
        repair(end, "b?", 1, 1, "1 9 -1 0 1 0 1; -1 2 0 0 1 0 0");
        // the tree itself would cost least for no tokens at all
        KindParser none = Checks.grammar(9, 0, 9, 0x123);
        repair(none, "abd", 1, 0, "1 9 -1 0 3 1 3; -1 1 0 0 1 0 0; -1 2 0 1 1 0 0; -1 3 0 2 1 1 1");
    }

    private static void countsLeast() {
        Checks.sentence("of these that which counts least");
        KindParser p = Checks.grammar(9, 0xA, 10, 0x1, 9, 0x1);
        repair(p, "a", 0, 0, "2 9 -1 0 1 0 1; -1 1 0 0 1 0 0");
        // before the greatest j
        KindParser end = Checks.grammar(9, 0, 9, 0xA, 10, 1);
        repair(end, "c", 1, 1, "0 9 -1 0 0 0 0");
        repair(end, "a", 0, 0, "1 9 -1 0 1 0 1; 2 10 0 0 1 0 1; -1 1 1 0 1 0 0");
    }

    private static void leavesCountNothing() {
        Checks.sentence("It counts 1 and what its nodes count; leaves count nothing.");
        // one node with three leaves, or two nodes with one; both cost 1
        KindParser p = Checks.grammar(9, 0xA, 10, 1, 9, 0x121);
        repair(p, "aa", 1, 0, "2 9 -1 0 2 1 3; -1 1 0 0 1 0 0; -1 2 0 1 0 1 2; -1 1 0 1 1 0 0");
        // a node without parts counts 1, too
        KindParser empty = Checks.grammar(9, 0x1A, 10, 0, 9, 0x1);
        repair(empty, "a", 0, 0, "2 9 -1 0 1 0 1; -1 1 0 0 1 0 0");
    }

    private static void greatestEnd() {
        Checks.sentence("of these that whose j is the greatest");
        KindParser p = Checks.grammar(9, 0, 9, 1);
        repair(p, "c", 1, 0, "1 9 -1 0 1 1 1; -1 1 0 0 1 1 1");
        repair(p, "cc", 2, 0, "1 9 -1 0 2 2 1; -1 1 0 0 2 2 1");
        repair(p, "ca", 1, 0, "1 9 -1 0 2 1 1; -1 1 0 0 2 1 0");
        repair(p, "ac", 1, 1, "1 9 -1 0 1 0 1; -1 1 0 0 1 0 0");
        repair(p, "aca", 2, 0, "1 9 -1 0 3 2 1; -1 1 0 0 3 2 0");
        repair(Checks.grammar(9, 1), "bbb", 3, 0, "0 9 -1 0 3 3 1; -1 1 0 0 3 3 1");
    }

    private static void leastRule() {
        Checks.sentence("the one whose rule has the least number");
        KindParser p = Checks.grammar(10, 1, 9, 0xB, 9, 0xA, 11, 1, 11, 1);
        repair(p, "a", 0, 0, "1 9 -1 0 1 0 1; 3 11 0 0 1 0 1; -1 1 1 0 1 0 0");
        // before the fewest tokens of the last part
        KindParser split = Checks.grammar(9, 0xAB, 9, 0xBA, 10, 0, 11, 0x1);
        repair(split, "a", 0, 0, "0 9 -1 0 1 0 2; 2 10 0 0 0 0 0; 3 11 0 0 1 0 1; -1 1 2 0 1 0 0");
        // but only of several that cost and count the least
        KindParser dear = Checks.grammar(9, 0x11, 9, 0xA, 10, 0x2, 9, 0x2, 9, 0x2);
        repair(dear, "b", 0, 0, "3 9 -1 0 1 0 1; -1 2 0 0 1 0 0");
        KindParser last = new KindParser();
        for (int rule = 0; rule < 18; rule++) {
            last.rule(9, 0x1, 0, false);
        }
        last.rule(9, 0x2, 0, false);
        last.rule(9, 0x2, 0, false);
        repair(last, "a", 0, 0, "0 9 -1 0 1 0 1; -1 1 0 0 1 0 0");
        repair(last, "b", 0, 0, "18 9 -1 0 1 0 1; -1 2 0 0 1 0 0");
    }

    private static void fewestTokensLast() {
        Checks.sentence("of these the one whose last part stands for the fewest tokens");
        repair(Checks.grammar(9, 0x11), "a", 1, 0, "0 9 -1 0 1 1 2; -1 1 0 0 1 0 0; -1 1 0 1 0 1 2");
        repair(Checks.grammar(9, 0x11), "bbb", 3, 0, "0 9 -1 0 3 3 2; -1 1 0 0 2 2 1; -1 1 0 2 1 1 1");
        repair(Checks.grammar(9, 0xAAA, 10, 0, 10, 0x11), "aa", 0, 0,
                "0 9 -1 0 2 0 3; 2 10 0 0 2 0 2; -1 1 1 0 1 0 0; -1 1 1 1 1 0 0; 1 10 0 2 0 0 0; 1 10 0 2 0 0 0");
        KindParser order = Checks.grammar(9, 0xABC, 10, 0, 10, 0x11, 11, 0, 11, 1, 12, 0, 12, 1);
        // kinds 11 and 12 could have one each, and the first part none
        repair(order, "aa", 0, 0, "0 9 -1 0 2 0 3; 2 10 0 0 2 0 2; -1 1 1 0 1 0 0; -1 1 1 1 1 0 0; 3 11 0 2 0 0 0; 5 12 0 2 0 0 0");
    }

    private static void fewestTokensLastButOne() {
        Checks.sentence("of these the one whose last part but one does");
        repair(Checks.grammar(9, 0x111), "bbbbb", 5, 0,
                "0 9 -1 0 5 5 3; -1 1 0 0 3 3 1; -1 1 0 3 1 1 1; -1 1 0 4 1 1 1");
        repair(Checks.grammar(9, 0x111), "a", 2, 0,
                "0 9 -1 0 1 2 3; -1 1 0 0 1 0 0; -1 1 0 1 0 1 2; -1 1 0 1 0 1 2");
        repair(Checks.grammar(9, 0x112), "aab", 0, 0,
                "0 9 -1 0 3 0 3; -1 1 0 0 1 0 0; -1 1 0 1 1 0 0; -1 2 0 2 1 0 0");
        repair(Checks.grammar(9, 0x112), "ab", 1, 0,
                "0 9 -1 0 2 1 3; -1 1 0 0 1 0 0; -1 1 0 1 0 1 2; -1 2 0 1 1 0 0");
        repair(Checks.grammar(9, 0xAA2, 10, 0, 10, 1), "ab", 0, 0,
                "0 9 -1 0 2 0 3; 2 10 0 0 1 0 1; -1 1 1 0 1 0 0; 1 10 0 1 0 0 0; -1 2 0 1 1 0 0");
    }

    private static void fewestTokensAndSoOn() {
        Checks.sentence("and so on");
        repair(Checks.grammar(9, 0x11111), "bbbbbbb", 7, 0, "0 9 -1 0 7 7 5; -1 1 0 0 3 3 1; -1 1 0 3 1 1 1; "
                + "-1 1 0 4 1 1 1; -1 1 0 5 1 1 1; -1 1 0 6 1 1 1");
        repair(Checks.grammar(9, 0x11222), "abbb", 1, 0, "0 9 -1 0 4 1 5; -1 1 0 0 1 0 0; -1 1 0 1 0 1 2; "
                + "-1 2 0 1 1 0 0; -1 2 0 2 1 0 0; -1 2 0 3 1 0 0");
        repair(Checks.grammar(9, 0x11111), "aa", 3, 0, "0 9 -1 0 2 3 5; -1 1 0 0 1 0 0; -1 1 0 1 1 0 0; "
                + "-1 1 0 2 0 1 2; -1 1 0 2 0 1 2; -1 1 0 2 0 1 2");
    }

    private static void kindsWithinThemselves() {
        Checks.sentence("It counts 1 and what its nodes count");
        KindParser self = Checks.grammar(9, 9, 9, 0x99, 9, 0xA, 10, 9, 9, 1);
        repair(self, "a", 0, 0, "4 9 -1 0 1 0 1; -1 1 0 0 1 0 0");
        repair(self, "aa", 0, 0, "1 9 -1 0 2 0 2; 4 9 0 0 1 0 1; -1 1 1 0 1 0 0; 4 9 0 1 1 0 1; -1 1 3 1 1 0 0");
        repair(self, "aaa", 0, 0, "1 9 -1 0 3 0 2; 1 9 0 0 2 0 2; 4 9 1 0 1 0 1; -1 1 2 0 1 0 0; 4 9 1 1 1 0 1; "
                + "-1 1 4 1 1 0 0; 4 9 0 2 1 0 1; -1 1 6 2 1 0 0");
        KindParser left = Checks.grammar(9, 0x921, 9, 1);
        repair(left, "a b a b a", 0, 0, "0 9 -1 0 5 0 3; 0 9 0 0 3 0 3; 1 9 1 0 1 0 1; -1 1 2 0 1 0 0; "
                + "-1 2 1 1 1 0 0; -1 1 1 2 1 0 0; -1 2 0 3 1 0 0; -1 1 0 4 1 0 0");
        // through all six kinds at the same tokens, the rules in the order that helps least
        KindParser chain = Checks.grammar(9, 0, 9, 0xA, 10, 0xB, 11, 0xC, 12, 0xD, 13, 0xE, 14, 0x12);
        repair(chain, "ab", 0, 0, "1 9 -1 0 2 0 1; 2 10 0 0 2 0 1; 3 11 1 0 2 0 1; 4 12 2 0 2 0 1; "
                + "5 13 3 0 2 0 1; 6 14 4 0 2 0 2; -1 1 5 0 1 0 0; -1 2 5 1 1 0 0");
        KindParser nothing = Checks.grammar(9, 0xA, 10, 0xB, 11, 0xC, 12, 0xD, 13, 0xE, 14, 0);
        repair(nothing, "", 0, 0, "0 9 -1 0 0 0 1; 1 10 0 0 0 0 1; 2 11 1 0 0 0 1; 3 12 2 0 0 0 1; "
                + "4 13 3 0 0 0 1; 5 14 4 0 0 0 0");
        // and what begins with such a chain must know of it
        KindParser longer = Checks.grammar(9, 0x93, 9, 0xA, 10, 0xB, 11, 0xC, 12, 0xD, 13, 0xE, 14, 0x12);
        repair(longer, "abc", 0, 0, "0 9 -1 0 3 0 2; 1 9 0 0 2 0 1; 2 10 1 0 2 0 1; 3 11 2 0 2 0 1; "
                + "4 12 3 0 2 0 1; 5 13 4 0 2 0 1; 6 14 5 0 2 0 2; -1 1 6 0 1 0 0; -1 2 6 1 1 0 0; -1 3 0 2 1 0 0");
    }

    private static void costWithTheEnd() {
        Checks.sentence("Repairs the text: what the tree costs with the END");
        KindParser p = Checks.grammar(9, 0x12);
        Checks.due("nothing to repair", Checks.repaired(p, "ab"), 0);
        Checks.due("in the tree", Checks.repaired(p, "aab"), 1);
        Checks.due("the tree costs it", p.part(0, 5), 1);
        Checks.due("in the END", Checks.repaired(p, "abc"), 1);
        Checks.due("the tree costs nothing", p.part(0, 5), 0);
        Checks.due("in both", Checks.repaired(p, "aabcc"), 3);
        Checks.due("the tree costs 1", p.part(0, 5), 1);
        Checks.due("the END 2", p.rest(), 2);
        Checks.due("the same text again", p.repair(), 3);
    }

    private static void noTreeBefore() {
        Checks.sentence("there is no tree before it is found");
        KindParser p = new KindParser();
        Checks.type(p, "ab");
        p.rule(9, 0x12, 0, false);
        Checks.due("parts()", p.parts(), 0);
        Checks.refused("rest()", Checks.STATE, p::rest);
        p.repair();
        Checks.due("parts()", p.parts(), 3);
        Checks.due("rest()", p.rest(), 0);
        repair(p, "b", 1, 0, "0 9 -1 0 1 1 2; -1 1 0 0 0 1 2; -1 2 0 0 1 0 0");
    }

    private static void notGrounded() {
        Checks.sentence("UnsupportedOperationException, when kind 9 is not grounded");
        KindParser p = new KindParser();
        Checks.refused("without a rule", Checks.UNSUPPORTED, p::repair);
        p.rule(10, 1, 0, false);
        Checks.refused("another kind is", Checks.UNSUPPORTED, p::repair);
        p.rule(9, 0x91, 0, false);
        Checks.refused("it waits for itself", Checks.UNSUPPORTED, p::repair);
        p.rule(9, 0xAB, 0, false);
        Checks.refused("it waits for another", Checks.UNSUPPORTED, p::repair);
        Checks.type(p, "a");
        p.rule(11, 0, 0, false);
        Checks.due("now it is", p.repair(), 0);
        Checks.due("by its second rule", p.part(0, 0), 2);
    }

    private static void moreThanSixteenTokens() {
        Checks.sentence("IllegalStateException, when there are more than 16 tokens");
        KindParser p = Checks.grammar(9, 1);
        Checks.due("16", Checks.repaired(p, "a".repeat(16)), 15);
        p.write('a', 1);
        Checks.refused("17", Checks.STATE, p::repair);
        Checks.due("16 with comments", Checks.repaired(p, "{x}a1 2".repeat(8) + "{y}"), 15);
        p.write('?', 1);
        Checks.refused("17 with comments", Checks.STATE, p::repair);
        Checks.retype(p, "?".repeat(80));
        Checks.refused("80", Checks.STATE, p::repair);
        Checks.due("and a short text again", Checks.repaired(p, "b"), 1);
    }

    private static void moreThanAllowedParts() {
        Checks.sentence("or the tree has more than 150 parts");
        // 14 has 6 parts, 13 has 31, 11 has 25 or 26
        KindParser most = Checks.grammar(14, 0x11111, 13, 0xEEEEE, 11, 0xEEEE, 9, 0xDDDDB);
        Checks.due("150 parts", most.repair(), 120);
        Checks.due("parts()", most.parts(), 150);
        Checks.same("the last one", Checks.part(most, 149), "-1 1 144 0 0 1 2");
        Checks.same("its parent", Checks.part(most, 144), "0 14 125 0 0 5 5");
        KindParser more = Checks.grammar(14, 0x11111, 13, 0xEEEEE, 11, 0xEEEE1, 9, 0xDDDDB);
        Checks.refused("151 parts", Checks.STATE, more::repair);
        KindParser wide = Checks.grammar(WIDE);
        Checks.due("16 tokens in 150 parts", Checks.repaired(wide, "a".repeat(16)), 0);
        Checks.due("parts()", wide.parts(), 150);
        Checks.same("the last one", Checks.part(wide, 149), "7 14 144 16 0 0 0");
        Checks.retype(wide, "a".repeat(15) + "b");
        Checks.refused("in 151 parts", Checks.STATE, wide::repair);
        Checks.retype(wide, "b" + "a".repeat(15));
        Checks.refused("in 151 parts, the wider first", Checks.STATE, wide::repair);
        Checks.due("14 of the wider", Checks.repaired(wide, "b".repeat(14)), 0);
        Checks.due("parts()", wide.parts(), 146);
        KindParser huge = Checks.grammar(9, 0xAAAAA, 10, 0xBBBBB, 11, 0xCCCCC, 12, 0xDDDDD, 13, 0xEEEEE, 14, 0x11111);
        Checks.refused("19531 parts", Checks.STATE, huge::repair);
        Checks.retype(huge, "a".repeat(16));
        Checks.refused("with 16 tokens", Checks.STATE, huge::repair);
        huge.rule(10, 2, 0, false);
        Checks.due("a way that is short", Checks.repaired(huge, "bbbb"), 1);
        Checks.due("its parts", huge.parts(), 11);
    }

    private static void withinMoreThanAllowed() {
        Checks.sentence("or a node within more than 36 others");
        KindParser p = Checks.grammar(DEEP);
        Checks.due("the last node is within 36", Checks.repaired(p, "a".repeat(12) + "b"), 0);
        Checks.due("parts()", p.parts(), 12 * 4 + 2);
        Checks.same("the last node", Checks.part(p, 48), "4 9 47 12 1 0 1");
        Checks.same("its leaf is within 37", Checks.part(p, 49), "-1 2 48 12 1 0 0");
        Checks.retype(p, "a".repeat(12) + "c");
        Checks.refused("one within 37", Checks.STATE, p::repair);
        Checks.due("13 tokens", Checks.repaired(p, "a".repeat(13)), 0);
        Checks.due("its parts", p.parts(), 50);
        Checks.retype(p, "a".repeat(14));
        Checks.refused("one within 39", Checks.STATE, p::repair);
        Checks.retype(p, "a".repeat(16));
        Checks.refused("one within 45", Checks.STATE, p::repair);
        // no node counts that stands beside it
        KindParser list = Checks.grammar(9, 0x9A, 9, 0, 10, 0xBBBBB, 10, 0x1, 11, 0);
        Checks.due("more nodes than 36, none of them deep", Checks.repaired(list, "aaaaaaaaaaaaaaaa"), 0);
        Checks.due("its parts", list.parts(), 16 * 3 + 1);
    }

    private static void limitsDoNotChoose() {
        Checks.sentence("Of all trees it is the one that costs least .. the tree has more than 150 parts or a node ..");
        KindParser wide = Checks.grammar(WIDE);
        wide.rule(9, 0x1, 0, false);
        Checks.due("within the limit", Checks.repaired(wide, "aaaaaaaaaaaaaaaa"), 0);
        Checks.retype(wide, "a".repeat(15) + "b");
        Checks.refused("a dearer tree would have two parts", Checks.STATE, wide::repair);
        KindParser deep = Checks.grammar(DEEP);
        Checks.retype(deep, "a".repeat(12) + "c");
        Checks.refused("a dearer tree would be less deep", Checks.STATE, deep::repair);
        // where it costs no more, that which counts less is the tree, and is within the limit
        deep.rule(9, 0x3, 0, false);
        Checks.due("one that counts less", deep.repair(), 0);
        Checks.due("parts()", deep.parts(), 50);
    }

    private static void noneAfterwards() {
        Checks.sentence("(Then there is none afterwards.)");
        noneAfter(Checks.grammar(WIDE), "a".repeat(17));
        noneAfter(Checks.grammar(WIDE), "a".repeat(15) + "b");
        noneAfter(Checks.grammar(DEEP), "a".repeat(12) + "c");
        noneAfter(Checks.grammar(DEEP), "a".repeat(16));
    }

    private static void noneAfter(KindParser p, String text) {
        Checks.due("repair of ax", Checks.repaired(p, "a?{y}"), 1);
        Checks.due("print(9)", p.print(9), 7);
        String page = Checks.page(p);
        Checks.retype(p, text);
        Checks.due("the tree is still there", p.parts() > 0, true);
        Checks.refused("repair of " + text, Checks.STATE, p::repair);
        Checks.due("tokens()", p.tokens(), 0);
        Checks.due("parts()", p.parts(), 0);
        Checks.refused("rest()", Checks.STATE, p::rest);
        Checks.refused("print(9)", Checks.STATE, () -> p.print(9));
        Checks.refused("token(0, 0)", Checks.INDEX, () -> p.token(0, 0));
        Checks.refused("token(0, 2)", Checks.INDEX, () -> p.token(0, 2));
        Checks.refused("part(0, 0)", Checks.INDEX, () -> p.part(0, 0));
        Checks.same("the page is still there", Checks.page(p), page);
        Checks.due("count(1)", p.count(1), 1);
        Checks.due("count(2)", p.count(2), 1);
        Checks.due("the text is still there", p.erase(), text.length());
        Checks.due("a new one", Checks.repaired(p, "a"), 0);
        Checks.due("count(1)", p.count(1), 2);
    }

    private static void countOfRules() {
        Checks.sentence("How many rules there are (0)");
        KindParser p = new KindParser();
        Checks.due("none", p.count(0), 0);
        for (int rule = 0; rule < 20; rule++) {
            p.rule(9, 1, 0, false);
            Checks.due("count(0)", p.count(0), rule + 1);
        }
        Checks.refused("one more", Checks.STATE, () -> p.rule(9, 1, 0, false));
        Checks.refused("a wrong one", Checks.ARGUMENT, () -> p.rule(8, 1, 0, false));
        p.repair();
        p.erase();
        Checks.due("count(0)", p.count(0), 20);
    }

    private static void countOfRepairs() {
        Checks.sentence("how many texts were repaired (1)");
        KindParser p = new KindParser();
        Checks.due("none", p.count(1), 0);
        Checks.refused("not grounded", Checks.UNSUPPORTED, p::repair);
        Checks.due("none yet", p.count(1), 0);
        p.rule(9, 0x1, 0, false);
        p.repair();
        Checks.due("an empty one", p.count(1), 1);
        p.repair();
        Checks.due("the same again", p.count(1), 2);
        Checks.repaired(p, "a");
        Checks.due("one that costs nothing", p.count(1), 3);
        Checks.retype(p, "a".repeat(17));
        Checks.refused("17 tokens", Checks.STATE, p::repair);
        p.erase();
        p.rule(9, 0x2, 0, false);
        Checks.due("a failure, erase and rule leave it", p.count(1), 3);
    }

    private static void countOfCosts() {
        Checks.sentence("and what that cost in all (2)");
        KindParser p = new KindParser();
        Checks.due("nothing", p.count(2), 0);
        p.rule(9, 0x12, 0, false);
        Checks.due("two are missing", p.repair(), 2);
        Checks.due("count(2)", p.count(2), 2);
        Checks.due("four", Checks.repaired(p, "c c c c"), 4);
        Checks.due("count(2)", p.count(2), 6);
        Checks.due("none", Checks.repaired(p, "a b"), 0);
        Checks.due("count(2)", p.count(2), 6);
        Checks.due("the END's", Checks.repaired(p, "a b c"), 1);
        Checks.due("count(2)", p.count(2), 7);
        Checks.retype(p, "aaaaaaaabbbbbbbbc");
        Checks.refused("17 tokens", Checks.STATE, p::repair);
        p.erase();
        p.rule(9, 0x2, 0, false);
        Checks.due("a failure, erase and rule leave it", p.count(2), 7);
    }

    private static void countOfAnother() {
        Checks.sentence("NONE for another one");
        KindParser p = Checks.grammar(9, 1, 9, 2, 9, 3);
        p.repair();
        for (int what : new int[] {3, 4, -1, -2, 256, Integer.MIN_VALUE, Integer.MAX_VALUE}) {
            Checks.due("count(" + what + ")", p.count(what), KindParser.NONE);
        }
        Checks.due("the first", p.count(0), 3);
        Checks.due("the last", p.count(2), 1);
    }
}
