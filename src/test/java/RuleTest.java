/** Promises 1 (a new object), 2 (rule), 13 (grounded) and 14 (count). */
final class RuleTest {
    public static void main(String[] args) {
        newObject();
        numbers();
        wrongHeads();
        wrongSymbols();
        wrongHints();
        firstListedException();
        orderOfDigits();
        ruleTakesTheTree();
        refusedRuleChangesNothing();
        grounded();
        count();
        Checks.end();
    }

    private static void newObject() {
        KindParser p = new KindParser();
        for (int what = 0; what < 3; what++) {
            Checks.due("new: count(" + what + ")", p.count(what), 0);
        }
        for (int kind = 0; kind < 17; kind++) {
            Checks.due("new: grounded(" + kind + ")", p.grounded(kind), false);
        }
        Checks.due("new: tokens()", p.tokens(), 0);
        Checks.due("new: parts()", p.parts(), 0);
        Checks.refused("new: rest()", Checks.STATE, p::rest);
        Checks.refused("new: repair()", Checks.UNSUPPORTED, p::repair);
        Checks.refused("new: print(10)", Checks.STATE, () -> p.print(10));
        Checks.refused("new: print(0)", Checks.ARGUMENT, () -> p.print(0));
        Checks.refused("new: character(0)", Checks.INDEX, () -> p.character(0));
        Checks.refused("new: token(0, 2)", Checks.INDEX, () -> p.token(0, 2));
        Checks.refused("new: part(0, 0)", Checks.INDEX, () -> p.part(0, 0));
        Checks.due("new: erase()", p.erase(), 0);
    }

    private static void numbers() {
        KindParser p = new KindParser();
        for (int rule = 0; rule < 20; rule++) {
            Checks.due("rule " + rule, p.rule(9 + rule % 6, rule % 2 == 0 ? 0 : 0x12345, 0, rule % 3 == 0), rule);
            Checks.due("count(0)", p.count(0), rule + 1);
        }
        Checks.refused("rule 20", Checks.STATE, () -> p.rule(9, 1, 0, false));
        Checks.due("count(0)", p.count(0), 20);
    }

    private static void wrongHeads() {
        KindParser p = new KindParser();
        for (int head : new int[] {8, 15, 1, 0, -1, 16, Integer.MIN_VALUE, Integer.MAX_VALUE}) {
            Checks.refused("head " + head, Checks.ARGUMENT, () -> p.rule(head, 1, 0, false));
        }
        for (int head = 9; head <= 14; head++) {
            Checks.due("head " + head, p.rule(head, 1, 0, false), head - 9);
        }
    }

    private static void wrongSymbols() {
        KindParser p = new KindParser();
        int[] wrong = {-1, Integer.MIN_VALUE, Integer.MAX_VALUE, 0x100000, 0x111111, 0x1111111, 0xF, 0x10, 0x101,
            0x1F1, 0xF1111, 0x11110, 0x10111, 0xFFFFF};
        for (int symbols : wrong) {
            Checks.refused("symbols " + symbols, Checks.ARGUMENT, () -> p.rule(9, symbols, 0, false));
        }
        int[] right = {0, 1, 0xE, 0x1E, 0xE1, 0x89A, 0x1234, 0xEEEEE, 0x11111};
        for (int at = 0; at < right.length; at++) {
            Checks.due("symbols " + right[at], p.rule(9, right[at], 0, false), at);
        }
    }

    private static void wrongHints() {
        KindParser p = new KindParser();
        int[][] wrong = {{0, -1}, {0, 1}, {0, 4}, {1, -1}, {1, 1}, {1, 2}, {1, 3}, {1, 4}, {0x11, 3}, {0x11, 4},
            {0x11, 8}, {0x11, -2}, {0x11, 16}, {0x111, 0xC}, {0x111, 0xE}, {0x111, 0x10}, {0x11111, 0x100},
            {0x11111, 0x200}, {0x11111, 0x400}, {0x11111, 0xC0}, {0x11111, 0x30}, {0x11111, 0xAB}, {0x11111, 0x1 << 30},
            {0x11111, Integer.MAX_VALUE}, {0x11111, Integer.MIN_VALUE}};
        for (int[] pair : wrong) {
            Checks.refused("symbols " + pair[0] + " hints " + pair[1], Checks.ARGUMENT,
                    () -> p.rule(9, pair[0], pair[1], true));
        }
        int[][] right = {{0, 0}, {1, 0}, {0x11, 0}, {0x11, 1}, {0x11, 2}, {0x111, 0xA}, {0x111, 8}, {0x1111, 0x2A},
            {0x11111, 0xAA}, {0x11111, 0x55}};
        for (int at = 0; at < right.length; at++) {
            Checks.due("symbols " + right[at][0] + " hints " + right[at][1],
                    p.rule(9, right[at][0], right[at][1], true), at);
        }
    }

    private static void firstListedException() {
        KindParser p = new KindParser();
        for (int rule = 0; rule < 20; rule++) {
            p.rule(10, 1, 0, false);
        }
        Checks.refused("full, wrong head", Checks.ARGUMENT, () -> p.rule(8, 1, 0, false));
        Checks.refused("full, wrong symbols", Checks.ARGUMENT, () -> p.rule(9, 15, 0, false));
        Checks.refused("full, wrong hints", Checks.ARGUMENT, () -> p.rule(9, 1, 1, false));
        Checks.refused("full", Checks.STATE, () -> p.rule(9, 1, 0, false));
        Checks.due("the full grammar got no rule for 9", p.grounded(9), false);
    }

    private static void orderOfDigits() {
        KindParser p = new KindParser();
        p.rule(9, 0x12A34, 0x46, true);
        p.rule(10, 0x8, 0, false);
        Checks.due("a b h c d", Checks.repaired(p, "a b h c d"), 0);
        Checks.same("its parts", Checks.tree(p), "0 9 -1 0 5 0 5; -1 1 0 0 1 0 0; -1 2 0 1 1 0 0; "
                + "1 10 0 2 1 0 1; -1 8 3 2 1 0 0; -1 3 0 3 1 0 0; -1 4 0 4 1 0 0");
        // hints 0x46 = 1 0 1 2 by 4: b a space, h close, c a space, d a new line
        Checks.same("print(20)", Checks.printed(p, 20), "a bh c d");
        Checks.same("print(5)", Checks.printed(p, 5), "a bh c\n  d");
    }

    private static void ruleTakesTheTree() {
        KindParser p = new KindParser();
        p.rule(9, 1, 0, false);
        Checks.repaired(p, "a1");
        Checks.same("print", Checks.printed(p, 9), "a1");
        p.rule(14, 0, 0, false);
        Checks.due("parts()", p.parts(), 0);
        Checks.due("tokens()", p.tokens(), 0);
        Checks.refused("rest()", Checks.STATE, p::rest);
        Checks.refused("print(5)", Checks.STATE, () -> p.print(5));
        Checks.refused("part(0, 0)", Checks.INDEX, () -> p.part(0, 0));
        Checks.refused("token(0, 0)", Checks.INDEX, () -> p.token(0, 0));
        Checks.same("the page stays", Checks.page(p), "a1");
        Checks.due("the text stays", p.repair(), 0);
        Checks.due("its token", p.token(0, 1), 2);
    }

    private static void refusedRuleChangesNothing() {
        KindParser p = new KindParser();
        p.rule(9, 0x1A, 1, true);
        p.rule(10, 2, 0, false);
        Checks.repaired(p, "a b");
        p.print(3);
        String before = Checks.state(p);
        Checks.refused("head", Checks.ARGUMENT, () -> p.rule(8, 1, 0, false));
        Checks.refused("symbols", Checks.ARGUMENT, () -> p.rule(11, 0x101, 0, false));
        Checks.refused("hints", Checks.ARGUMENT, () -> p.rule(11, 1, 1, false));
        Checks.same("after refused rules", Checks.state(p), before);
        for (int rule = 2; rule < 20; rule++) {
            p.rule(12, 1, 0, false);
        }
        p.repair();
        String full = Checks.state(p);
        Checks.refused("full", Checks.STATE, () -> p.rule(11, 1, 0, false));
        Checks.same("after a rule too many", Checks.state(p), full);
    }

    private static void grounded() {
        KindParser p = new KindParser();
        p.rule(9, 0x1A, 0, false);
        p.rule(10, 0xB2, 0, false);
        p.rule(11, 0xBC, 0, false);
        p.rule(12, 0xD, 0, false);
        p.rule(13, 0xD1, 0, false);
        Checks.same("nothing stands yet", ground(p), "------");
        p.rule(13, 0, 0, false);
        Checks.same("11 waits for itself", ground(p), "---gg-");
        p.rule(11, 0xCD, 0, false);
        Checks.same("all but 14", ground(p), "ggggg-");
        p.rule(14, 0xE, 0, false);
        Checks.same("14 waits for itself", ground(p), "ggggg-");
        p.rule(14, 0x88888, 0, false);
        Checks.same("signs are ground", ground(p), "gggggg");
        for (int kind : new int[] {8, 15, 1, 0, -1, 9 + 16, Integer.MIN_VALUE, Integer.MAX_VALUE}) {
            Checks.due("grounded(" + kind + ")", p.grounded(kind), false);
        }
    }

    private static String ground(KindParser p) {
        StringBuilder all = new StringBuilder();
        for (int kind = 9; kind <= 14; kind++) {
            all.append(p.grounded(kind) ? 'g' : '-');
        }
        return all.toString();
    }

    private static void count() {
        KindParser p = new KindParser();
        for (int what : new int[] {3, 4, -1, -2, Integer.MIN_VALUE, Integer.MAX_VALUE}) {
            Checks.due("count(" + what + ")", p.count(what), KindParser.NONE);
        }
        Checks.refused("repair()", Checks.UNSUPPORTED, p::repair);
        p.rule(9, 0x12, 0, false);
        Checks.due("a missing, b missing", p.repair(), 2);
        Checks.due("count(1)", p.count(1), 1);
        Checks.due("count(2)", p.count(2), 2);
        Checks.due("c c c c", Checks.repaired(p, "c c c c"), 4);
        Checks.due("a b", Checks.repaired(p, "a b"), 0);
        Checks.due("count(1)", p.count(1), 3);
        Checks.due("count(2)", p.count(2), 6);
        Checks.retype(p, "aaaaaaaabbbbbbbbc");
        Checks.refused("17 tokens", Checks.STATE, p::repair);
        Checks.due("count(1) without what failed", p.count(1), 3);
        Checks.due("count(2) without what failed", p.count(2), 6);
        Checks.due("count(0)", p.count(0), 1);
    }
}
