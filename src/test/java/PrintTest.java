/** Promises 11 (print) and 12 (character). */
final class PrintTest {
    public static void main(String[] args) {
        hints();
        emptyParts();
        skippedAndReplaced();
        digits();
        widthEdges();
        indents();
        columns();
        lineEndInComment();
        theEnd();
        deepIndent();
        wrongCalls();
        pageStays();
        Checks.end();
    }

    private static void print(KindParser p, int width, String want) {
        Checks.same("print(" + width + ")", Checks.printed(p, width), want);
    }

    private static KindParser one(int symbols, int hints, boolean in, String text) {
        KindParser p = new KindParser();
        p.rule(9, symbols, hints, in);
        Checks.repaired(p, text);
        return p;
    }

    /** Kind 9 is a and kind 10 behind it by a hint; kind 10 is b and c, with a hint of 2 for c. */
    private static KindParser nested(int hint, boolean outerIn, boolean innerIn, String text) {
        KindParser p = new KindParser();
        p.rule(9, 0x1A, hint, outerIn);
        p.rule(10, 0x23, 2, innerIn);
        Checks.repaired(p, text);
        return p;
    }

    private static void hints() {
        KindParser p = one(0x1234, 0x6, false, "a1b2\nc3  d4");
        print(p, 100, "a1b2 c3 d4");
        print(p, 10, "a1b2 c3 d4");
        print(p, 9, "a1b2 c3\nd4");
        print(p, 1, "a1b2 c3\nd4");
        print(one(0x1234, 0x2A, false, "abcd"), 6, "a\nb\nc\nd");
        print(one(0x1234, 0x2A, true, "abcd"), 6, "a\n  b\n  c\n  d");
        print(one(0x1234, 0x15, true, "abcd"), 6, "a b c d");
        print(one(0x1234, 0, true, "a b c d"), 1, "abcd");
    }

    private static void emptyParts() {
        print(one(0x12, 2, true, "b"), 1, "b");
        print(one(0x12, 2, true, "a"), 1, "a");
        print(one(0x123, 0x8, true, "a c"), 1, "ac");
        print(one(0x123, 0x2, true, "a c"), 1, "a\n  c");
        print(one(0x123, 0x2, true, "a c"), 3, "a c");
        print(one(0x12, 2, true, ""), 1, "");
        KindParser p = new KindParser();
        p.rule(9, 0xA1B2A, 0x99, true);
        p.rule(10, 0, 0, true);
        p.rule(11, 0xA, 0, true);
        Checks.repaired(p, "a b");
        // 9 = 10 a 11 b 10 with hints 0 2 1 2 1: only b's of 2 is between two that are not empty
        print(p, 3, "a b");
        print(p, 2, "a\n  b");
    }

    private static void skippedAndReplaced() {
        KindParser p = one(0x12, 0, false, "{1}x{2}{3}a7 {4}? y{5} b9");
        Checks.due("tokens", p.tokens(), 5);
        print(p, 1, "{1} x {2} {3} a7{4} ? y {5} b9");
        print(one(0x12, 2, true, "x a y b"), 1, "x a\n  y b");
        print(one(0x12, 2, true, "x a y b"), 7, "x a y b");
        print(one(0x1, 0, true, "?"), 1, "?");
        print(one(0x1, 0, true, "{ ab }?"), 1, "{ ab } ?");
    }

    private static void digits() {
        print(one(0x12, 0, false, "a 1"), 9, "a 1");
        print(one(0x12, 0, false, "a{x}1"), 9, "a{x} 1");
        print(one(0x12, 0, false, "a 1b"), 9, "a 1 b");
        print(one(0x12, 0, false, "x 1"), 9, "x 1");
        print(one(0x12, 0, false, "a :"), 9, "a:");
        print(one(0x12, 0, false, "a /"), 9, "a/");
        print(one(0x12, 0, false, "a 0"), 9, "a 0");
        print(one(0x12, 0, false, "a 9"), 9, "a 9");
        print(one(0x12, 1, false, "a 1"), 9, "a 1");
        print(one(0x12, 2, false, "a 1"), 2, "a\n1");
        print(one(0x12, 2, false, "a 1"), 3, "a 1");
        KindParser p = new KindParser();
        p.rule(9, 0x1A2, 0x2, true);
        p.rule(10, 0x3, 0, false);
        Checks.repaired(p, "a 1 b");
        // the space that the digit needs is part of the flat width
        print(p, 5, "a 1 b");
        print(p, 4, "a 1\n  b");
    }

    private static void widthEdges() {
        KindParser p = one(0x12, 2, true, "a12 b45");
        print(p, 7, "a12 b45");
        print(p, 6, "a12\n  b45");
        print(p, 1, "a12\n  b45");
        print(p, 100, "a12 b45");
        KindParser full = one(0x12, 2, false, "a" + "1".repeat(39) + "b" + "2".repeat(39));
        print(full, 81, "a" + "1".repeat(39) + " b" + "2".repeat(39));
        print(full, 80, "a" + "1".repeat(39) + "\nb" + "2".repeat(39));
    }

    private static void indents() {
        print(nested(2, true, true, "abc"), 1, "a\n  b\n    c");
        print(nested(2, true, false, "abc"), 1, "a\n  b\n  c");
        print(nested(2, false, true, "abc"), 1, "a\nb\n  c");
        print(nested(2, false, false, "abc"), 1, "a\nb\nc");
        print(nested(1, true, true, "abc"), 1, "a b\n    c");
        print(nested(1, true, false, "abc"), 1, "a b\n  c");
        // a node that is not broken gives no spaces, and is not laid out in lines
        print(nested(2, false, true, "abc"), 3, "a\nb c");
        print(nested(2, true, true, "abc"), 5, "a b c");
        print(nested(2, true, true, "abc"), 4, "a\n  b\n    c");
        KindParser p = new KindParser();
        p.rule(9, 0xA1, 2, true);
        p.rule(10, 0x23, 2, true);
        Checks.repaired(p, "b c a");
        print(p, 5, "b c a");
        print(p, 4, "b c\n  a");
        print(p, 3, "b c\n  a");
        print(p, 2, "b\n    c\n  a");
    }

    private static void columns() {
        print(nested(1, false, false, "abc"), 5, "a b c");
        print(nested(1, false, false, "abc"), 4, "a b\nc");
        print(nested(0, false, true, "abc"), 4, "ab c");
        print(nested(0, false, true, "abc"), 3, "ab\n  c");
        // kind 10 just fits, and just does not, behind the two spaces
        print(nested(2, true, false, "a123 bc"), 5, "a123\n  b c");
        print(nested(2, true, false, "a123 bc"), 4, "a123\n  b\n  c");
        // at a column beyond the width every node that is not empty is broken
        print(nested(1, false, true, "a12345 b c"), 3, "a12345 b\n  c");
        KindParser p = new KindParser();
        p.rule(9, 0xAAA, 0x5, true);
        p.rule(10, 0x12, 2, true);
        Checks.repaired(p, "abababab".substring(0, 6));
        print(p, 11, "a b a b a b");
        print(p, 10, "a b a b a\n    b");
        print(p, 7, "a b a b a\n    b");
        print(p, 6, "a b a\n    b a\n    b");
        print(p, 3, "a b a\n    b a\n    b");
        print(p, 2, "a\n    b a\n    b a\n    b");
    }

    private static void lineEndInComment() {
        print(nested(1, false, false, "{\n}a b c"), 9, "{\n} a b c");
        print(nested(1, false, false, "{\n}a b c"), 8, "{\n} a b\nc");
        print(nested(1, false, false, "a {12\n3}b c"), 12, "a {12\n3} b c");
        print(nested(1, false, false, "a {12\n3}b c"), 11, "a {12\n3} b\nc");
        print(nested(2, true, true, "a {12\n3}b c"), 10, "a\n  {12\n3} b\n    c");
    }

    private static void theEnd() {
        print(one(0x12, 1, true, "a b"), 9, "a b");
        print(one(0x12, 1, true, "a b c"), 9, "a b\nc");
        print(one(0x12, 1, true, "a b{x}c d{y}{z}"), 9, "a b\n{x} c d {y} {z}");
        print(one(0x12, 1, true, "a b{y}{z}"), 9, "a b\n{y} {z}");
        print(one(0x12, 2, true, "a b c{y}"), 1, "a\n  b\nc {y}");
        print(one(0, 0, true, "{x} c 1{y}{z}d{w}"), 1, "{x} c 1 {y} {z} d {w}");
        print(one(0, 0, true, "{x}"), 1, "{x}");
        print(one(0, 0, true, ""), 1, "");
        print(one(0x1, 0, true, "{\n}"), 1, "{\n}");
        print(one(0, 0, true, "{}".repeat(40)), 1, "{} ".repeat(40).trim());
    }

    private static void deepIndent() {
        KindParser p = new KindParser();
        p.rule(9, 0x1A, 2, true);
        p.rule(10, 0xB, 0, true);
        p.rule(11, 0x9, 0, true);
        p.rule(9, 0x1, 0, true);
        Checks.due("repair", Checks.repaired(p, "a9".repeat(13)), 0);
        StringBuilder want = new StringBuilder("a9");
        for (int line = 1; line < 13; line++) {
            want.append('\n').append(" ".repeat(2 + 6 * (line - 1))).append("a9");
        }
        print(p, 1, want.toString());
        print(p, 38, "a9 a9 a9 a9 a9 a9 a9 a9 a9 a9 a9 a9 a9");
    }

    private static void wrongCalls() {
        KindParser p = new KindParser();
        p.rule(9, 0x12, 2, true);
        Checks.refused("no tree", Checks.STATE, () -> p.print(1));
        Checks.refused("no tree, wrong width", Checks.ARGUMENT, () -> p.print(101));
        Checks.repaired(p, "a b");
        p.print(2);
        String before = Checks.state(p);
        for (int width : new int[] {0, -1, 101, Integer.MIN_VALUE, Integer.MAX_VALUE}) {
            Checks.refused("print(" + width + ")", Checks.ARGUMENT, () -> p.print(width));
        }
        Checks.same("refused prints change nothing", Checks.state(p), before);
        for (int i : new int[] {-1, 5, Integer.MIN_VALUE, Integer.MAX_VALUE}) {
            Checks.refused("character(" + i + ")", Checks.INDEX, () -> p.character(i));
        }
        Checks.due("character(1)", p.character(1), 10);
        Checks.due("character(2)", p.character(2), 32);
        Checks.due("print(100)", p.print(100), 3);
        Checks.due("print(1)", p.print(1), 5);
    }

    private static void pageStays() {
        KindParser p = one(0x12, 2, true, "a b c");
        print(p, 1, "a\n  b\nc");
        Checks.repaired(p, "d");
        Checks.same("repair leaves the page", Checks.page(p), "a\n  b\nc");
        p.rule(10, 0, 0, false);
        p.erase();
        Checks.same("the page outlives the tree", Checks.page(p), "a\n  b\nc");
        Checks.refused("print without a tree", Checks.STATE, () -> p.print(1));
        Checks.same("and a refused print", Checks.page(p), "a\n  b\nc");
        p.repair();
        print(p, 1, "");
        Checks.refused("the page is empty", Checks.INDEX, () -> p.character(0));
    }
}
