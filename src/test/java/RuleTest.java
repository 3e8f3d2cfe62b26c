/** SYMBOLS, RULES and GROUNDED of the terms; promises 1 (a new object), 2 (rule) and 13 (grounded). */
final class RuleTest {
    private static final int[] FAR_OFF = {Integer.MIN_VALUE, -16, -1, 0, 1, 16, 25, Integer.MAX_VALUE};

    public static void main(String[] args) {
        newObject();
        signs();
        kinds();
        numbersFromZero();
        atMostTwenty();
        rowLengths();
        orderOfSymbols();
        orderOfHints();
        treeGoes();
        headIsNoKind();
        symbolsBelowZero();
        moreThanFiveDigits();
        digitIsNoSymbol();
        hintsBelowZero();
        digitIsNoHint();
        hintOfTheFirst();
        hintBeyondTheFirst();
        groundedByNothingOrSigns();
        groundedByAllKinds();
        groundedInSteps();
        groundedStays();
        groundedIsNoKind();
        Checks.end();
    }

    private static void newObject() {
        Checks.sentence("KindParser(): No rules, an empty text.");
        KindParser p = new KindParser();
        for (int what = 0; what < 3; what++) {
            Checks.due("count(" + what + ")", p.count(what), 0);
        }
        for (int kind = 0; kind < 17; kind++) {
            Checks.due("grounded(" + kind + ")", p.grounded(kind), false);
        }
        Checks.due("tokens()", p.tokens(), 0);
        Checks.due("parts()", p.parts(), 0);
        Checks.refused("rest()", Checks.STATE, p::rest);
        Checks.refused("repair()", Checks.UNSUPPORTED, p::repair);
        Checks.refused("print(10)", Checks.STATE, () -> p.print(10));
        Checks.refused("character(0)", Checks.INDEX, () -> p.character(0));
        Checks.refused("token(0, 2)", Checks.INDEX, () -> p.token(0, 2));
        Checks.refused("part(0, 0)", Checks.INDEX, () -> p.part(0, 0));
        Checks.due("erase()", p.erase(), 0);
        Checks.due("the first rule", p.rule(9, 0, 0, false), 0);
        Checks.due("the first character", p.write('a', 1), 1);
        KindParser other = new KindParser();
        Checks.due("another object has no rules", other.count(0), 0);
        Checks.due("another object has no text", other.erase(), 0);
    }

    private static void signs() {
        Checks.sentence("1 .. 8 are SIGNS (a .. h)");
        for (int sign = 1; sign <= 8; sign++) {
            KindParser p = Checks.grammar(9, sign);
            for (int letter = 1; letter <= 8; letter++) {
                String text = "abcdefgh".substring(letter - 1, letter);
                Checks.due("sign " + sign + " for " + text, Checks.repaired(p, text), sign == letter ? 0 : 1);
            }
            Checks.due("sign " + sign + " is a leaf", p.part(1, 0), KindParser.NONE);
            Checks.due("and this symbol", p.part(1, 1), sign);
        }
    }

    private static void kinds() {
        Checks.sentence("9 .. 14 are KINDS");
        for (int kind = 9; kind <= 14; kind++) {
            KindParser p = Checks.grammar(9, 0x10 + kind, kind, 0x2);
            Checks.due("kind " + kind + " as a head and as a symbol", Checks.repaired(p, "ab"), 0);
            Checks.same("its node", Checks.part(p, 2), "1 " + kind + " 0 1 1 0 1");
        }
    }

    private static void numbersFromZero() {
        Checks.sentence("RULES, numbered from 0 in the order in which they come");
        KindParser p = new KindParser();
        for (int rule = 0; rule < 20; rule++) {
            Checks.due("rule " + rule, p.rule(14 - rule % 6, rule % 2 == 0 ? 0 : 0x12345, 0, rule % 3 == 0), rule);
            Checks.due("count(0)", p.count(0), rule + 1);
        }
        // kind 14 is head of rules 0, 6, 12, 18, and these are of no symbols; kind 9 of 5, 11, 17 with five
        Checks.due("repair()", p.repair(), 5);
        Checks.due("the rule of the tree", p.part(0, 0), 5);
        KindParser last = new KindParser();
        for (int rule = 0; rule < 19; rule++) {
            last.rule(10, 1, 0, false);
        }
        last.rule(9, 2, 0, false);
        Checks.due("by the last rule", Checks.repaired(last, "b"), 0);
        Checks.due("its number", last.part(0, 0), 19);
    }

    private static void atMostTwenty() {
        Checks.sentence("IllegalStateException, when there are 20");
        KindParser p = new KindParser();
        for (int rule = 0; rule < 19; rule++) {
            p.rule(10, 0x11111, 0xAA, true);
        }
        Checks.due("the last one that is taken", p.rule(10, 0x11111, 0xAA, true), 19);
        Checks.refused("the first one that is not", Checks.STATE, () -> p.rule(9, 0, 0, false));
        Checks.refused("nor the next", Checks.STATE, () -> p.rule(14, 0x11111, 0xAA, true));
        Checks.due("count(0)", p.count(0), 20);
        Checks.due("grounded(9)", p.grounded(9), false);
        Checks.due("grounded(14)", p.grounded(14), false);
        KindParser q = new KindParser();
        for (int rule = 0; rule < 19; rule++) {
            q.rule(9 + rule % 5, 0xE9ABC, 0xAA, true);
        }
        q.rule(14, 0x12345, 0, false);
        Checks.same("the last one has five symbols", ground(q), "-----g");
        KindParser r = new KindParser();
        for (int rule = 0; rule < 19; rule++) {
            r.rule(9 + rule % 6, 0x99999, 0xAA, true);
        }
        Checks.due("the last one has five symbols", r.rule(9, 0x12345, 0, false), 19);
        Checks.due("and is of use", Checks.repaired(r, "abcde"), 0);
        Checks.due("in the tree", r.part(0, 0), 19);
        // five nodes: three are good, four leaves of one and five of another are missing
        Checks.due("and with 16 tokens", Checks.repaired(r, "abcdeabcdeabcdee"), 9);
        Checks.due("in the last node", r.part(25, 0), 19);
    }

    private static void rowLengths() {
        Checks.sentence("a row of 0 to 5 symbols");
        int[] rows = {0, 0x1, 0x12, 0x123, 0x1234, 0x12345};
        for (int length = 0; length <= 5; length++) {
            KindParser p = Checks.grammar(9, rows[length]);
            Checks.due("repair of " + length, Checks.repaired(p, "abcdefgh".substring(0, length)), 0);
            Checks.due("parts()", p.parts(), 1 + length);
            Checks.due("part(0, 6)", p.part(0, 6), length);
        }
        Checks.refused("a row of 6", Checks.ARGUMENT, () -> new KindParser().rule(9, 0x123456, 0, false));
    }

    private static void orderOfSymbols() {
        Checks.sentence("The symbols are the digits by 16 of symbols, the last one the lowest");
        KindParser p = Checks.grammar(9, 0x12A34, 10, 0x8);
        Checks.due("a b h c d", Checks.repaired(p, "a b h c d"), 0);
        Checks.same("its parts", Checks.tree(p), "0 9 -1 0 5 0 5; -1 1 0 0 1 0 0; -1 2 0 1 1 0 0; "
                + "1 10 0 2 1 0 1; -1 8 3 2 1 0 0; -1 3 0 3 1 0 0; -1 4 0 4 1 0 0");
        KindParser highest = Checks.grammar(9, 0xEEEEE, 14, 0x8);
        Checks.due("five of the highest symbol", Checks.repaired(highest, "hhhhh"), 0);
        Checks.due("parts()", highest.parts(), 11);
    }

    private static void orderOfHints() {
        Checks.sentence("hints are the digits by 4 of hints, that of the last symbol the lowest, that of the first one 0");
        print(0x12345, 0x00, "abcde");
        print(0x12345, 0x01, "abcd e");
        print(0x12345, 0x04, "abc de");
        print(0x12345, 0x10, "ab cde");
        print(0x12345, 0x40, "a bcde");
        print(0x12345, 0x02, "abcd\ne");
        print(0x12345, 0x08, "abc\nde");
        print(0x12345, 0x20, "ab\ncde");
        print(0x12345, 0x80, "a\nbcde");
        print(0x12345, 0x46, "a bc d\ne");
        print(0x12345, 0xAA, "a\nb\nc\nd\ne");
        print(0x12, 0x1, "a b");
        print(0x12, 0x2, "a\nb");
    }

    private static void print(int symbols, int hints, String want) {
        KindParser p = new KindParser();
        p.rule(9, symbols, hints, false);
        Checks.repaired(p, want);
        Checks.same("hints " + hints, Checks.printed(p, 1), want);
    }

    private static void treeGoes() {
        Checks.sentence("The tree that there was is gone.");
        KindParser p = Checks.grammar(9, 1);
        Checks.repaired(p, "a1");
        Checks.same("print", Checks.printed(p, 9), "a1");
        p.rule(14, 0, 0, false);
        Checks.due("parts()", p.parts(), 0);
        Checks.due("tokens()", p.tokens(), 0);
        Checks.refused("rest()", Checks.STATE, p::rest);
        Checks.refused("print(5)", Checks.STATE, () -> p.print(5));
        Checks.refused("part(0, 0)", Checks.INDEX, () -> p.part(0, 0));
        Checks.refused("token(0, 0)", Checks.INDEX, () -> p.token(0, 0));
        Checks.refused("token(0, 2)", Checks.INDEX, () -> p.token(0, 2));
        Checks.same("the page stays", Checks.page(p), "a1");
        Checks.due("count(1) stays", p.count(1), 1);
        Checks.due("the text stays", p.repair(), 0);
        Checks.due("its token", p.token(0, 1), 2);
    }

    private static void headIsNoKind() {
        Checks.sentence("IllegalArgumentException, when head is no kind");
        KindParser p = new KindParser();
        for (int head : FAR_OFF) {
            Checks.refused("head " + head, Checks.ARGUMENT, () -> p.rule(head, 1, 0, false));
        }
        Checks.refused("head 8", Checks.ARGUMENT, () -> p.rule(8, 1, 0, false));
        Checks.refused("head 15", Checks.ARGUMENT, () -> p.rule(15, 1, 0, false));
        for (int head = 9; head <= 14; head++) {
            Checks.due("head " + head, p.rule(head, 1, 0, false), head - 9);
        }
    }

    private static void symbolsBelowZero() {
        Checks.sentence("symbols is below 0");
        KindParser p = new KindParser();
        // the lowest digits of some of these would be right
        for (int symbols : new int[] {-1, -2, Integer.MIN_VALUE, Integer.MIN_VALUE + 1, Integer.MIN_VALUE + 0x11111}) {
            Checks.refused("symbols " + symbols, Checks.ARGUMENT, () -> p.rule(9, symbols, 0, false));
        }
        Checks.due("symbols 0", p.rule(9, 0, 0, false), 0);
        Checks.due("symbols 1", p.rule(9, 1, 0, false), 1);
    }

    private static void moreThanFiveDigits() {
        Checks.sentence("has more than five digits");
        KindParser p = new KindParser();
        int[] more = {0x100000, 0x111111, 0x1EEEEE, 0x111112, 0xEEEEEE, 0x1111111, 0x11111111, 0x7EEEEEEE, 0x10000001};
        for (int symbols : more) {
            Checks.refused("symbols " + symbols, Checks.ARGUMENT, () -> p.rule(9, symbols, 0, false));
        }
        Checks.due("the least of five", p.rule(9, 0x11111, 0, false), 0);
        Checks.due("the greatest of five", p.rule(9, 0xEEEEE, 0, false), 1);
    }

    private static void digitIsNoSymbol() {
        Checks.sentence("or one that is no symbol");
        KindParser p = new KindParser();
        for (int length = 1; length <= 5; length++) {
            int ones = 0x11111 & (1 << 4 * length) - 1;
            for (int place = 0; place < length; place++) {
                int fifteen = ones | 15 << 4 * place;
                Checks.refused("symbols " + fifteen, Checks.ARGUMENT, () -> p.rule(9, fifteen, 0, false));
                int zero = ones & ~(15 << 4 * place);
                // a 0 before all others is no digit
                if (place < length - 1) {
                    Checks.refused("symbols " + zero, Checks.ARGUMENT, () -> p.rule(9, zero, 0, false));
                }
                Checks.due("1 at " + place, p.rule(9, ones, 0, false), p.count(0) - 1);
            }
        }
        KindParser q = new KindParser();
        for (int place = 0; place < 5; place++) {
            Checks.due("14 at " + place, q.rule(9, 0x11111 + (13 << 4 * place), 0, false), place);
        }
        Checks.refused("symbols 16", Checks.ARGUMENT, () -> q.rule(9, 16, 0, false));
        Checks.refused("symbols 0xFFFFF", Checks.ARGUMENT, () -> q.rule(9, 0xFFFFF, 0, false));
    }

    private static void hintsBelowZero() {
        Checks.sentence("hints is below 0");
        KindParser p = new KindParser();
        for (int symbols : new int[] {0, 1, 0x11, 0x11111}) {
            for (int hints : new int[] {-1, -2, -4, Integer.MIN_VALUE, Integer.MIN_VALUE + 1}) {
                Checks.refused("symbols " + symbols + " hints " + hints, Checks.ARGUMENT,
                        () -> p.rule(9, symbols, hints, true));
            }
            Checks.due("hints 0", p.rule(9, symbols, 0, true), p.count(0) - 1);
        }
    }

    private static void digitIsNoHint() {
        Checks.sentence("has a digit that is no hint");
        for (int length = 2; length <= 5; length++) {
            KindParser p = new KindParser();
            int symbols = 0x11111 & (1 << 4 * length) - 1;
            int twos = 0xAA & (1 << 2 * (length - 1)) - 1;
            for (int place = 0; place < length - 1; place++) {
                int three = 3 << 2 * place;
                Checks.refused(length + " symbols, 3 at " + place, Checks.ARGUMENT, () -> p.rule(9, symbols, three, true));
                Checks.refused("with 2 elsewhere", Checks.ARGUMENT, () -> p.rule(9, symbols, twos | three, true));
                Checks.due("2 at " + place, p.rule(9, symbols, 2 << 2 * place, true), p.count(0) - 1);
                Checks.due("1 at " + place, p.rule(9, symbols, 1 << 2 * place, true), p.count(0) - 1);
            }
            Checks.due(length + " symbols, 2 everywhere", p.rule(9, symbols, twos, true), p.count(0) - 1);
        }
    }

    private static void hintOfTheFirst() {
        Checks.sentence("not 0 for the first symbol");
        for (int length = 1; length <= 5; length++) {
            KindParser p = new KindParser();
            int symbols = 0x11111 & (1 << 4 * length) - 1;
            for (int hint = 1; hint <= 3; hint++) {
                int hints = hint << 2 * (length - 1);
                Checks.refused(length + " symbols, the first with " + hint, Checks.ARGUMENT,
                        () -> p.rule(9, symbols, hints, false));
            }
            Checks.due(length + " symbols, the first with 0", p.rule(9, symbols, 0, false), 0);
        }
    }

    private static void hintBeyondTheFirst() {
        Checks.sentence("or beyond it");
        for (int length = 0; length <= 5; length++) {
            KindParser p = new KindParser();
            int symbols = 0x11111 & (1 << 4 * length) - 1;
            for (int place = length; place <= 14; place++) {
                int hints = 1 << 2 * place;
                Checks.refused(length + " symbols, hints " + hints, Checks.ARGUMENT,
                        () -> p.rule(9, symbols, hints, false));
            }
            Checks.refused("the greatest hints", Checks.ARGUMENT, () -> p.rule(9, symbols, Integer.MAX_VALUE, false));
            Checks.due(length + " symbols without", p.rule(9, symbols, 0, false), 0);
        }
    }

    private static void groundedByNothingOrSigns() {
        Checks.sentence("A kind is GROUNDED when it is the head of a rule whose kinds all are grounded");
        KindParser p = new KindParser();
        Checks.same("without rules", ground(p), "------");
        p.rule(14, 0, 0, false);
        Checks.same("no symbols at all", ground(p), "-----g");
        p.rule(9, 0x8, 0, false);
        Checks.same("a sign", ground(p), "g----g");
        p.rule(11, 0x88888, 0, false);
        Checks.same("five signs", ground(p), "g-g--g");
        p.rule(10, 0xA, 0, false);
        Checks.same("itself alone", ground(p), "g-g--g");
        p.rule(12, 0xD, 0, false);
        p.rule(13, 0xC, 0, false);
        Checks.same("one another alone", ground(p), "g-g--g");
    }

    private static void groundedByAllKinds() {
        Checks.sentence("whose kinds all are grounded");
        for (int place = 0; place < 5; place++) {
            KindParser p = new KindParser();
            p.rule(14, 1, 0, false);
            p.rule(9, 0xEEEEE & ~(15 << 4 * place) | 13 << 4 * place, 0, false);
            Checks.due("one at " + place + " is not", p.grounded(9), false);
            p.rule(13, 0x1D, 0, false);
            Checks.due("nor by a rule with itself", p.grounded(9), false);
            p.rule(13, 0, 0, false);
            Checks.due("now it is", p.grounded(9), true);
        }
        // what stands in the next rule is no matter
        KindParser next = Checks.grammar(9, 0xBBBBB, 10, 0xAAAAA, 11, 0x1);
        Checks.same("five symbols, and a rule behind it that is not", ground(next), "g-g---");
    }

    private static void groundedInSteps() {
        Checks.sentence("(in a number of steps)");
        KindParser down = new KindParser();
        for (int kind = 9; kind <= 13; kind++) {
            down.rule(kind, kind + 1, 0, false);
        }
        Checks.same("before the last", ground(down), "------");
        down.rule(14, 1, 0, false);
        Checks.same("six steps, upwards", ground(down), "gggggg");
        KindParser up = new KindParser();
        for (int kind = 14; kind >= 10; kind--) {
            up.rule(kind, kind - 1, 0, false);
        }
        Checks.same("before the last", ground(up), "------");
        up.rule(9, 0, 0, false);
        Checks.same("six steps, downwards", ground(up), "gggggg");
        KindParser p = Checks.grammar(9, 0x1A, 10, 0xB2, 11, 0xBC, 12, 0xD, 13, 0xD1);
        Checks.same("nothing stands yet", ground(p), "------");
        p.rule(13, 0, 0, false);
        Checks.same("11 waits for itself", ground(p), "---gg-");
        p.rule(11, 0xCD, 0, false);
        Checks.same("all but 14", ground(p), "ggggg-");
    }

    private static void groundedStays() {
        Checks.sentence("grounded: Whether a kind is grounded");
        KindParser p = Checks.grammar(9, 1);
        p.rule(9, 0xA, 0, false);
        Checks.due("a rule that is not, behind one that is", p.grounded(9), true);
        Checks.repaired(p, "a");
        p.erase();
        Checks.due("behind repair and erase", p.grounded(9), true);
        Checks.due("and no other", p.grounded(10), false);
    }

    private static void groundedIsNoKind() {
        Checks.sentence("false when it is no kind");
        KindParser p = Checks.grammar(9, 0, 10, 0, 11, 0, 12, 0, 13, 0, 14, 0);
        Checks.same("all kinds are", ground(p), "gggggg");
        for (int kind : FAR_OFF) {
            Checks.due("grounded(" + kind + ")", p.grounded(kind), false);
        }
        Checks.due("grounded(8)", p.grounded(8), false);
        Checks.due("grounded(15)", p.grounded(15), false);
    }

    private static String ground(KindParser p) {
        StringBuilder all = new StringBuilder();
        for (int kind = 9; kind <= 14; kind++) {
            all.append(p.grounded(kind) ? 'g' : '-');
        }
        return all.toString();
    }
}
