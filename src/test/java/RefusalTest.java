/** The two sentences at the end of the terms, for each exception that a promise lists. */
final class RefusalTest {
    private interface Setup {
        KindParser made();
    }

    private interface Use {
        long of(KindParser p);
    }

    public static void main(String[] args) {
        Checks.sentence("A call that throws changes nothing, if nothing else is said.");
        Setup[] setups = {RefusalTest::fresh, RefusalTest::waiting, RefusalTest::used, RefusalTest::rewritten,
            RefusalTest::gone, RefusalTest::full};
        for (Setup setup : setups) {
            wrongRules(setup);
            wrongWrites(setup);
            wrongWidths(setup);
            wrongIndices(setup);
        }
        ruleTooMany();
        writeTooMuch();
        notGrounded();
        withoutATree(RefusalTest::fresh);
        withoutATree(RefusalTest::waiting);
        withoutATree(RefusalTest::gone);
        failedRepair();
        Checks.sentence("When several of its exceptions would be right, the first one that is listed is thrown.");
        ruleWrongAndTooMany();
        writeWrongAndTooMuch();
        notGroundedAndTooManyTokens();
        widthWrongAndNoTree();
        Checks.end();
    }

    private static KindParser fresh() {
        return new KindParser();
    }

    /** Rules that leave kind 9 without ground, and a text. */
    private static KindParser waiting() {
        KindParser p = new KindParser();
        p.rule(9, 0x1A, 1, true);
        Checks.type(p, "a b{x}");
        return p;
    }

    /** Rules, a text, its tree, and a page. */
    private static KindParser used() {
        KindParser p = new KindParser();
        p.rule(9, 0x1A, 2, true);
        p.rule(10, 2, 0, false);
        Checks.repaired(p, "a ?b1{x}c{y}");
        p.print(3);
        return p;
    }

    /** The same with another text, so that the tree is not that of the text. */
    private static KindParser rewritten() {
        KindParser p = used();
        Checks.retype(p, "b{z}");
        return p;
    }

    /** The same without the tree; the page is still there. */
    private static KindParser gone() {
        KindParser p = used();
        p.rule(10, 0x21, 1, true);
        return p;
    }

    /** As many rules and characters as there may be, a tree, and a page. */
    private static KindParser full() {
        KindParser p = used();
        for (int rule = 2; rule < 20; rule++) {
            p.rule(11 + rule % 2, 0x1, 0, false);
        }
        p.erase();
        Checks.type(p, " ".repeat(70) + "{x}a2 b4{}");
        p.repair();
        p.print(3);
        return p;
    }

    private static void unchanged(String call, Class<?> want, Setup setup, Use use) {
        KindParser tried = setup.made();
        KindParser twin = setup.made();
        Checks.refused(call, want, () -> use.of(tried));
        Checks.refused(call + " again", want, () -> use.of(tried));
        Checks.same("state after " + call, Checks.state(tried), Checks.state(twin));
        Checks.same("what comes after " + call, Checks.future(tried), Checks.future(twin));
    }

    private static void wrongRules(Setup setup) {
        int[][] wrong = {{8, 1, 0}, {15, 1, 0}, {9, -1, 0}, {9, 0x111111, 0}, {9, 0x1F, 0}, {9, 0x10, 0},
            {9, 0x11, -1}, {9, 0x11, 3}, {9, 0x11, 4}, {9, 0x11, 16}, {9, 0, 1}};
        for (int[] row : wrong) {
            String call = "rule(" + row[0] + ", " + row[1] + ", " + row[2] + ", true)";
            unchanged(call, Checks.ARGUMENT, setup, p -> p.rule(row[0], row[1], row[2], true));
        }
    }

    private static void wrongWrites(Setup setup) {
        unchanged("write of 0", Checks.ARGUMENT, setup, p -> p.write(Checks.packed("aaaaaaaa"), 0));
        unchanged("write of 9", Checks.ARGUMENT, setup, p -> p.write(Checks.packed("aaaaaaaa"), 9));
        unchanged("write of a 9", Checks.ARGUMENT, setup, p -> p.write(9, 1));
        unchanged("write of a 127 at the end", Checks.ARGUMENT, setup, p -> p.write(0x7F6161, 3));
        unchanged("write of a 31 at the beginning", Checks.ARGUMENT, setup, p -> p.write(0x61611F, 3));
    }

    private static void wrongWidths(Setup setup) {
        unchanged("print(0)", Checks.ARGUMENT, setup, p -> p.print(0));
        unchanged("print(101)", Checks.ARGUMENT, setup, p -> p.print(101));
    }

    private static void wrongIndices(Setup setup) {
        unchanged("token(-1, 0)", Checks.INDEX, setup, p -> p.token(-1, 0));
        unchanged("token(17, 0)", Checks.INDEX, setup, p -> p.token(17, 0));
        unchanged("token(0, 3)", Checks.INDEX, setup, p -> p.token(0, 3));
        unchanged("part(-1, 0)", Checks.INDEX, setup, p -> p.part(-1, 0));
        unchanged("part(150, 0)", Checks.INDEX, setup, p -> p.part(150, 0));
        unchanged("part(0, 7)", Checks.INDEX, setup, p -> p.part(0, 7));
        unchanged("character(-1)", Checks.INDEX, setup, p -> p.character(-1));
        unchanged("character(999)", Checks.INDEX, setup, p -> p.character(999));
    }

    private static void ruleTooMany() {
        unchanged("the 21st rule", Checks.STATE, RefusalTest::full, p -> p.rule(13, 1, 0, false));
        unchanged("one more for kind 9", Checks.STATE, RefusalTest::full, p -> p.rule(9, 0, 0, true));
    }

    private static void writeTooMuch() {
        for (int n = 1; n <= 8; n++) {
            int more = n;
            unchanged("write of " + n, Checks.STATE, RefusalTest::full, p -> p.write(Checks.packed("aaaaaaaa"), more));
        }
    }

    private static void notGrounded() {
        unchanged("repair()", Checks.UNSUPPORTED, RefusalTest::fresh, KindParser::repair);
        unchanged("repair()", Checks.UNSUPPORTED, RefusalTest::waiting, KindParser::repair);
    }

    private static void withoutATree(Setup setup) {
        unchanged("rest()", Checks.STATE, setup, KindParser::rest);
        unchanged("print(1)", Checks.STATE, setup, p -> p.print(1));
        unchanged("print(100)", Checks.STATE, setup, p -> p.print(100));
        unchanged("token(0, 0)", Checks.INDEX, setup, p -> p.token(0, 0));
        unchanged("part(0, 0)", Checks.INDEX, setup, p -> p.part(0, 0));
    }

    /** Here something else is said: the tree is gone; all the rest is as it was. */
    private static void failedRepair() {
        unchanged("repair() of 17 tokens", Checks.STATE, RefusalTest::goneWithALongText, KindParser::repair);
        KindParser p = used();
        Checks.retype(p, "abababab".repeat(2) + "a");
        String before = Checks.state(p);
        Checks.refused("repair() of 17 tokens", Checks.STATE, p::repair);
        Checks.same("the counts and kinds", counts(Checks.state(p)), counts(before));
        Checks.same("the page", pageOf(Checks.state(p)), pageOf(before));
        Checks.due("parts()", p.parts(), 0);
        Checks.due("the text", p.erase(), 17);
        Checks.due("the rules", Checks.repaired(p, "ab"), 0);
        Checks.same("the tree by them", Checks.tree(p), "0 9 -1 0 2 0 2; -1 1 0 0 1 0 0; 1 10 0 1 1 0 1; -1 2 2 1 1 0 0");
        Checks.same("the print by them", Checks.printed(p, 1), "a\n  b");
    }

    private static KindParser goneWithALongText() {
        KindParser p = gone();
        Checks.retype(p, "abababab".repeat(2) + "a");
        return p;
    }

    private static String counts(String state) {
        return state.substring(0, state.indexOf(" rest "));
    }

    private static String pageOf(String state) {
        return state.substring(state.indexOf(" page "));
    }

    private static void ruleWrongAndTooMany() {
        KindParser p = full();
        Checks.refused("full, wrong head", Checks.ARGUMENT, () -> p.rule(8, 1, 0, false));
        Checks.refused("full, symbols below 0", Checks.ARGUMENT, () -> p.rule(9, -1, 0, false));
        Checks.refused("full, too many symbols", Checks.ARGUMENT, () -> p.rule(9, 0x111111, 0, false));
        Checks.refused("full, wrong symbol", Checks.ARGUMENT, () -> p.rule(9, 15, 0, false));
        Checks.refused("full, hints below 0", Checks.ARGUMENT, () -> p.rule(9, 0x11, -1, false));
        Checks.refused("full, wrong hint", Checks.ARGUMENT, () -> p.rule(9, 0x11, 3, false));
        Checks.refused("full, a hint for the first", Checks.ARGUMENT, () -> p.rule(9, 1, 1, false));
        Checks.refused("full, and all is right", Checks.STATE, () -> p.rule(9, 1, 0, false));
    }

    private static void writeWrongAndTooMuch() {
        KindParser p = full();
        Checks.refused("full, n 0", Checks.ARGUMENT, () -> p.write('a', 0));
        Checks.refused("full, n 9", Checks.ARGUMENT, () -> p.write(Checks.packed("aaaaaaaa"), 9));
        Checks.refused("full, no character", Checks.ARGUMENT, () -> p.write(127, 1));
        Checks.refused("full, the last is no character", Checks.ARGUMENT, () -> p.write(0x1F61616161616161L, 8));
        Checks.refused("full, and all is right", Checks.STATE, () -> p.write('a', 1));
        KindParser one = new KindParser();
        Checks.type(one, " ".repeat(79));
        Checks.refused("room for one, the second is no character", Checks.ARGUMENT, () -> one.write(0x0961, 2));
        Checks.refused("room for one, two come", Checks.STATE, () -> one.write(0x6161, 2));
        Checks.due("one", one.write(0x0961, 1), 80);
    }

    private static void notGroundedAndTooManyTokens() {
        KindParser p = new KindParser();
        Checks.type(p, "a".repeat(17));
        Checks.refused("no rules, 17 tokens", Checks.UNSUPPORTED, p::repair);
        p.rule(9, 0x91, 0, false);
        Checks.refused("not grounded, 17 tokens", Checks.UNSUPPORTED, p::repair);
        p.rule(9, 0, 0, false);
        Checks.refused("grounded, 17 tokens", Checks.STATE, p::repair);
    }

    private static void widthWrongAndNoTree() {
        for (int width : new int[] {0, -1, 101, Integer.MIN_VALUE, Integer.MAX_VALUE}) {
            Checks.refused("no tree, print(" + width + ")", Checks.ARGUMENT, () -> fresh().print(width));
            Checks.refused("tree gone, print(" + width + ")", Checks.ARGUMENT, () -> gone().print(width));
        }
        Checks.refused("no tree, print(1)", Checks.STATE, () -> fresh().print(1));
        Checks.refused("no tree, print(100)", Checks.STATE, () -> fresh().print(100));
    }
}
