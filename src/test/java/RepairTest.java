/** Promises 5 (repair), 8 (parts), 9 (part) and 10 (rest). */
final class RepairTest {
    public static void main(String[] args) {
        leaves();
        theEnd();
        leastCountThenGreatestEnd();
        leastRule();
        fewestTokensLast();
        kindsThatWaitForThemselves();
        notGrounded();
        tooManyTokens();
        tooManyParts();
        tooDeep();
        hugeTrees();
        fullSize();
        partEdges();
        noTreeAfterRefusal();
        Checks.end();
    }

    /** A parser whose rules, from 0 on, are pairs of a head and symbols. */
    private static KindParser grammar(int... pairs) {
        KindParser p = new KindParser();
        for (int at = 0; at + 1 < pairs.length; at += 2) {
            p.rule(pairs[at], pairs[at + 1], 0, false);
        }
        return p;
    }

    private static void repair(KindParser p, String text, int cost, int rest, String tree) {
        Checks.due("repair of " + text, Checks.repaired(p, text), cost);
        Checks.due("rest of " + text, p.rest(), rest);
        Checks.due("parts of " + text, p.parts(), tree.split("; ").length);
        Checks.same("tree of " + text, Checks.tree(p), tree);
    }

    private static void leaves() {
        KindParser p = grammar(9, 0x12);
        repair(p, "a b", 0, 0, "0 9 -1 0 2 0 2; -1 1 0 0 1 0 0; -1 2 0 1 1 0 0");
        repair(p, "", 2, 0, "0 9 -1 0 0 2 2; -1 1 0 0 0 1 2; -1 2 0 0 0 1 2");
        repair(p, "b", 1, 0, "0 9 -1 0 1 1 2; -1 1 0 0 0 1 2; -1 2 0 0 1 0 0");
        repair(p, "a", 1, 0, "0 9 -1 0 1 1 2; -1 1 0 0 1 0 0; -1 2 0 1 0 1 2");
        repair(p, "c b", 1, 0, "0 9 -1 0 2 1 2; -1 1 0 0 1 1 1; -1 2 0 1 1 0 0");
        repair(p, "a c", 1, 0, "0 9 -1 0 2 1 2; -1 1 0 0 1 0 0; -1 2 0 1 1 1 1");
        repair(p, "a c b", 1, 0, "0 9 -1 0 3 1 2; -1 1 0 0 1 0 0; -1 2 0 1 2 1 0");
        repair(p, "? a b", 1, 0, "0 9 -1 0 3 1 2; -1 1 0 0 2 1 0; -1 2 0 2 1 0 0");
        repair(p, "? a c c b", 3, 0, "0 9 -1 0 5 3 2; -1 1 0 0 2 1 0; -1 2 0 2 3 2 0");
        repair(p, "? 1", 2, 0, "0 9 -1 0 2 2 2; -1 1 0 0 1 1 1; -1 2 0 1 1 1 1");
    }

    private static void theEnd() {
        KindParser p = grammar(9, 0x12);
        repair(p, "a b c", 1, 1, "0 9 -1 0 2 0 2; -1 1 0 0 1 0 0; -1 2 0 1 1 0 0");
        repair(p, "a b a b", 2, 0, "0 9 -1 0 4 2 2; -1 1 0 0 3 2 0; -1 2 0 3 1 0 0");
        KindParser empty = grammar(9, 0);
        repair(empty, "a b c", 3, 3, "0 9 -1 0 0 0 0");
        repair(empty, "{x}", 0, 0, "0 9 -1 0 0 0 0");
    }

    private static void leastCountThenGreatestEnd() {
        KindParser end = grammar(9, 0, 9, 1);
        repair(end, "c", 1, 0, "1 9 -1 0 1 1 1; -1 1 0 0 1 1 1");
        KindParser count = grammar(9, 0, 9, 0xA, 10, 1);
        repair(count, "c", 1, 1, "0 9 -1 0 0 0 0");
        repair(count, "a", 0, 0, "1 9 -1 0 1 0 1; 2 10 0 0 1 0 1; -1 1 1 0 1 0 0");
        KindParser fewer = grammar(9, 0xA, 10, 0x1, 9, 0x1);
        repair(fewer, "a", 0, 0, "2 9 -1 0 1 0 1; -1 1 0 0 1 0 0");
    }

    private static void leastRule() {
        KindParser p = grammar(10, 1, 9, 0xB, 9, 0xA, 11, 1, 11, 1);
        repair(p, "a", 0, 0, "1 9 -1 0 1 0 1; 3 11 0 0 1 0 1; -1 1 1 0 1 0 0");
        // the rule's number comes before the fewest tokens of the last part
        KindParser split = grammar(9, 0xAB, 9, 0xBA, 10, 0, 11, 0x1);
        repair(split, "a", 0, 0, "0 9 -1 0 1 0 2; 2 10 0 0 0 0 0; 3 11 0 0 1 0 1; -1 1 2 0 1 0 0");
    }

    private static void fewestTokensLast() {
        repair(grammar(9, 0x11), "a", 1, 0, "0 9 -1 0 1 1 2; -1 1 0 0 1 0 0; -1 1 0 1 0 1 2");
        repair(grammar(9, 0x11), "bbb", 3, 0, "0 9 -1 0 3 3 2; -1 1 0 0 2 2 1; -1 1 0 2 1 1 1");
        repair(grammar(9, 0x111), "bbbbb", 5, 0,
                "0 9 -1 0 5 5 3; -1 1 0 0 3 3 1; -1 1 0 3 1 1 1; -1 1 0 4 1 1 1");
        repair(grammar(9, 0x111), "a", 2, 0,
                "0 9 -1 0 1 2 3; -1 1 0 0 1 0 0; -1 1 0 1 0 1 2; -1 1 0 1 0 1 2");
        repair(grammar(9, 0xAAA, 10, 0, 10, 1, 10, 0x11), "aa", 0, 0,
                "0 9 -1 0 2 0 3; 3 10 0 0 2 0 2; -1 1 1 0 1 0 0; -1 1 1 1 1 0 0; 1 10 0 2 0 0 0; 1 10 0 2 0 0 0");
    }

    private static void kindsThatWaitForThemselves() {
        KindParser self = grammar(9, 9, 9, 0x99, 9, 0xA, 10, 9, 9, 1);
        repair(self, "a", 0, 0, "4 9 -1 0 1 0 1; -1 1 0 0 1 0 0");
        repair(self, "aa", 0, 0, "1 9 -1 0 2 0 2; 4 9 0 0 1 0 1; -1 1 1 0 1 0 0; 4 9 0 1 1 0 1; -1 1 3 1 1 0 0");
        KindParser left = grammar(9, 0x921, 9, 1);
        repair(left, "a b a b a", 0, 0, "0 9 -1 0 5 0 3; 0 9 0 0 3 0 3; 1 9 1 0 1 0 1; -1 1 2 0 1 0 0; "
                + "-1 2 1 1 1 0 0; -1 1 1 2 1 0 0; -1 2 0 3 1 0 0; -1 1 0 4 1 0 0");
        // through all six kinds at the same tokens, the rules in the order that helps least
        KindParser chain = grammar(9, 0, 9, 0xA, 10, 0xB, 11, 0xC, 12, 0xD, 13, 0xE, 14, 0x12);
        repair(chain, "ab", 0, 0, "1 9 -1 0 2 0 1; 2 10 0 0 2 0 1; 3 11 1 0 2 0 1; 4 12 2 0 2 0 1; "
                + "5 13 3 0 2 0 1; 6 14 4 0 2 0 2; -1 1 5 0 1 0 0; -1 2 5 1 1 0 0");
        // and what begins with such a chain must know of it
        KindParser longer = grammar(9, 0x93, 9, 0xA, 10, 0xB, 11, 0xC, 12, 0xD, 13, 0xE, 14, 0x12);
        repair(longer, "abc", 0, 0, "0 9 -1 0 3 0 2; 1 9 0 0 2 0 1; 2 10 1 0 2 0 1; 3 11 2 0 2 0 1; "
                + "4 12 3 0 2 0 1; 5 13 4 0 2 0 1; 6 14 5 0 2 0 2; -1 1 6 0 1 0 0; -1 2 6 1 1 0 0; -1 3 0 2 1 0 0");
    }

    private static void notGrounded() {
        KindParser p = grammar(9, 0x91, 10, 1);
        Checks.refused("not grounded", Checks.UNSUPPORTED, p::repair);
        Checks.type(p, "a".repeat(17));
        Checks.refused("not grounded, and 17 tokens", Checks.UNSUPPORTED, p::repair);
        p.rule(9, 0xA, 0, false);
        Checks.refused("17 tokens", Checks.STATE, p::repair);
        Checks.due("count(1)", p.count(1), 0);
    }

    private static void tooManyTokens() {
        KindParser p = grammar(9, 1);
        Checks.due("16 tokens", Checks.repaired(p, "{x}a1 2".repeat(8)), 15);
        Checks.due("tokens()", p.tokens(), 16);
        Checks.retype(p, "{x}a1 2".repeat(8) + "{y}");
        Checks.due("a comment is none", p.repair(), 15);
        p.write('?', 1);
        Checks.refused("17 tokens", Checks.STATE, p::repair);
        Checks.due("tokens()", p.tokens(), 0);
        Checks.retype(p, "?".repeat(80));
        Checks.refused("80 tokens", Checks.STATE, p::repair);
        Checks.due("and again", Checks.repaired(p, "b"), 1);
    }

    private static void tooManyParts() {
        // 14 has 6 parts, 13 has 31, 11 has 25 or 26
        KindParser most = grammar(14, 0x11111, 13, 0xEEEEE, 11, 0xEEEE, 9, 0xDDDDB);
        Checks.due("150 parts", most.repair(), 120);
        Checks.due("parts()", most.parts(), 150);
        Checks.same("the last one", Checks.part(most, 149), "-1 1 144 0 0 1 2");
        Checks.same("its parent", Checks.part(most, 144), "0 14 125 0 0 5 5");
        Checks.refused("part(150, 0)", Checks.INDEX, () -> most.part(150, 0));
        KindParser more = grammar(14, 0x11111, 13, 0xEEEEE, 11, 0xEEEE1, 9, 0xDDDDB);
        Checks.refused("151 parts", Checks.STATE, more::repair);
        Checks.due("parts()", more.parts(), 0);
        Checks.refused("rest()", Checks.STATE, more::rest);
    }

    private static void tooDeep() {
        int[] rules = {9, 0x1A, 10, 0xB, 11, 0x9, 9, 0x1, 9, 0x2, 12, 0x3, 9, 0xC};
        KindParser p = grammar(rules);
        Checks.due("the last node is within 36", Checks.repaired(p, "a".repeat(12) + "b"), 0);
        Checks.due("parts()", p.parts(), 12 * 4 + 2);
        Checks.same("the last node", Checks.part(p, 48), "4 9 47 12 1 0 1");
        Checks.retype(p, "a".repeat(12) + "c");
        Checks.refused("one within 37", Checks.STATE, p::repair);
        Checks.due("parts()", p.parts(), 0);
        Checks.retype(p, "a".repeat(16));
        Checks.refused("one within 45", Checks.STATE, p::repair);
        KindParser again = grammar(rules);
        Checks.due("13 tokens", Checks.repaired(again, "a".repeat(13)), 0);
        Checks.due("its parts", again.parts(), 50);
    }

    private static void hugeTrees() {
        KindParser p = grammar(9, 0xAAAAA, 10, 0xBBBBB, 11, 0xCCCCC, 12, 0xDDDDD, 13, 0xEEEEE, 14, 0x11111);
        Checks.refused("19531 parts", Checks.STATE, p::repair);
        Checks.retype(p, "a".repeat(16));
        Checks.refused("with 16 tokens", Checks.STATE, p::repair);
        p.rule(10, 2, 0, false);
        Checks.due("a way that is short", Checks.repaired(p, "bbbb"), 1);
        Checks.due("its parts", p.parts(), 11);
    }

    private static void fullSize() {
        KindParser list = new KindParser();
        for (int rule = 0; rule < 18; rule++) {
            list.rule(9 + rule % 6, 0x9CDE1, 0, false);
        }
        list.rule(9, 0x19, 0, false);
        list.rule(9, 0, 0, false);
        repair(list, "aaaaaaaaaaaaaaaa", 0, 0, rightList(16));
    }

    /** The tree of kind 9 that is a and kind 9, and at last nothing, of good tokens. */
    private static String rightList(int tokens) {
        StringBuilder rows = new StringBuilder();
        for (int at = 0; at < tokens; at++) {
            int left = tokens - at;
            rows.append("18 9 ").append(at == 0 ? -1 : 2 * at - 2).append(' ').append(at).append(' ').append(left)
                    .append(" 0 2; -1 1 ").append(2 * at).append(' ').append(at).append(" 1 0 0; ");
        }
        return rows.append("19 9 ").append(2 * tokens - 2).append(' ').append(tokens).append(" 0 0 0").toString();
    }

    private static void partEdges() {
        KindParser p = grammar(9, 1);
        Checks.repaired(p, "a b");
        Checks.due("parts()", p.parts(), 2);
        int[][] none = {{-1, 0}, {2, 0}, {0, -1}, {0, 7}, {1, 7}, {1, -1}, {Integer.MIN_VALUE, 0},
            {Integer.MAX_VALUE, 0}, {0, Integer.MIN_VALUE}, {0, Integer.MAX_VALUE}, {-1, 7}};
        for (int[] pair : none) {
            Checks.refused("part(" + pair[0] + ", " + pair[1] + ")", Checks.INDEX, () -> p.part(pair[0], pair[1]));
        }
    }

    private static void noTreeAfterRefusal() {
        KindParser p = grammar(9, 0x12);
        Checks.repaired(p, "a b c");
        Checks.same("print", Checks.printed(p, 9), "ab\nc");
        Checks.retype(p, "a".repeat(17));
        Checks.due("the tree is still there", p.parts(), 3);
        Checks.refused("17 tokens", Checks.STATE, p::repair);
        Checks.same("nothing but the page is left", Checks.state(p),
                "1 1 1 g----- rest throws.IllegalStateException tokens 0 parts 0 [] page ab\nc");
        Checks.refused("print(9)", Checks.STATE, () -> p.print(9));
        Checks.refused("token(0, 0)", Checks.INDEX, () -> p.token(0, 0));
        Checks.refused("part(0, 0)", Checks.INDEX, () -> p.part(0, 0));
        Checks.due("the text is still there", p.erase(), 17);
        Checks.due("a new one", Checks.repaired(p, "b"), 1);
        Checks.due("count(1)", p.count(1), 2);
        Checks.due("count(2)", p.count(2), 2);
    }
}
