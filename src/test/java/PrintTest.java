/** LAYING OUT of the terms; promises 11 (print) and 12 (character). */
final class PrintTest {
    public static void main(String[] args) {
        leaf();
        missingLeaf();
        hints();
        emptyParts();
        lineEndWhenBroken();
        beginsWithADigit();
        theEnd();
        theEndAlone();
        flatWidth();
        flatWidthOfInnerNodes();
        whatIsLeft();
        notBrokenWithin();
        spacesBehindALineEnd();
        theNodeItself();
        onlyInAndBroken();
        lineEndInAComment();
        columnOfAPart();
        longestPrint();
        mostParts();
        ofThisTreeAlone();
        howManyCharacters();
        widthIsNotAllowed();
        noTree();
        printedLast();
        alsoWhenTheTreeIsGone();
        noSuchCharacter();
        Checks.end();
    }

    private static void print(KindParser p, int width, String want) {
        Checks.due("print(" + width + ") has as many characters", p.print(width), want.length());
        Checks.same("print(" + width + ")", Checks.printed(p, width), want);
    }

    private static KindParser one(int symbols, int hints, boolean in, String text) {
        KindParser p = new KindParser();
        p.rule(9, symbols, hints, in);
        Checks.repaired(p, text);
        return p;
    }

    /** Kind 9 is a and kind 10 behind it by a hint; kind 10 is b and c, with a hint of 2 for c. */
    private static KindParser nested(int hint, boolean outerIn, boolean innerIn, String text) {
        KindParser p = new KindParser();
        p.rule(9, 0x1A, hint, outerIn);
        p.rule(10, 0x23, 2, innerIn);
        Checks.repaired(p, text);
        return p;
    }

    private static void leaf() {
        Checks.sentence("A leaf's PRINT: for each skipped token and .. its own, in order: each comment that belongs to it, "
                + "and then the token, as in the text; there is a space between each two of all these.");
        print(one(0x1, 0, false, "a"), 1, "a");
        print(one(0x1, 0, false, "a0123456789"), 1, "a0123456789");
        print(one(0x1, 0, false, "?"), 1, "?");
        print(one(0x1, 0, false, "{}a"), 1, "{} a");
        print(one(0x1, 0, false, "{ ab }?"), 1, "{ ab } ?");
        print(one(0x1, 0, false, "{1}{2}a"), 1, "{1} {2} a");
        print(one(0x1, 0, false, "x\n\n  a"), 1, "x a");
        print(one(0x1, 0, false, "xa"), 1, "x a");
        print(one(0x1, 0, false, "x{1}a"), 1, "x {1} a");
        print(one(0x1, 0, false, "{1}x1{2}{3}a7"), 1, "{1} x 1 {2} {3} a7");
        KindParser p = one(0x12, 0, false, "{1}x{2}{3}a7 {4}? y{5} b9");
        Checks.due("tokens", p.tokens(), 5);
        print(p, 1, "{1} x {2} {3} a7{4} ? y {5} b9");
        print(one(0x1, 0, false, "b".repeat(16)), 1, "b b b b b b b b b b b b b b b b");
    }

    private static void missingLeaf() {
        Checks.sentence("and, if it is not missing, its own");
        print(one(0x1, 0, false, ""), 1, "");
        print(one(0x12, 1, false, "a"), 1, "a");
        print(one(0x12, 1, false, "b"), 1, "b");
        print(one(0x123, 0x5, false, "ac"), 1, "a c");
    }

    private static void hints() {
        Checks.sentence("how it stands behind what is before it: 0 close, 1 with a space, 2 with a space or on a new line");
        print(one(0x12, 0, false, "a b"), 1, "ab");
        print(one(0x12, 1, false, "ab"), 1, "a b");
        print(one(0x12, 2, false, "ab"), 3, "a b");
        print(one(0x12, 2, false, "ab"), 2, "a\nb");
        KindParser p = one(0x1234, 0x6, false, "a1b2\nc3  d4");
        print(p, 100, "a1b2 c3 d4");
        print(p, 1, "a1b2 c3\nd4");
        print(one(0x1234, 0x15, true, "abcd"), 6, "a b c d");
        print(one(0x1234, 0, true, "a b c d"), 1, "abcd");
    }

    private static void emptyParts() {
        Checks.sentence("A node's print: those of its parts that are not empty, between each two of them "
                + "what the hint of the latter one's symbol says");
        print(one(0x12, 2, true, "b"), 1, "b");
        print(one(0x12, 2, true, "a"), 1, "a");
        print(one(0x123, 0x8, true, "a c"), 1, "ac");
        print(one(0x123, 0x9, true, "a c"), 1, "a c");
        print(one(0x123, 0x2, true, "a c"), 1, "a\n  c");
        print(one(0x123, 0x2, true, "a c"), 3, "a c");
        print(one(0x12345, 0xAA, true, "c"), 1, "c");
        print(one(0x12345, 0xA9, true, "a e"), 1, "a e");
        print(one(0x12, 2, true, ""), 1, "");
        KindParser p = new KindParser();
        p.rule(9, 0xA1B2A, 0x99, true);
        p.rule(10, 0, 0, true);
        p.rule(11, 0xA, 0, true);
        Checks.repaired(p, "a b");
        // 9 = 10 a 11 b 10 with hints 0 2 1 2 1: only b's of 2 is between two that are not empty
        print(p, 3, "a b");
        print(p, 2, "a\n  b");
    }

    private static void lineEndWhenBroken() {
        Checks.sentence("a line end for hint 2 when the node is BROKEN, else a space");
        print(one(0x1234, 0x2A, false, "abcd"), 7, "a b c d");
        print(one(0x1234, 0x2A, false, "abcd"), 6, "a\nb\nc\nd");
        print(one(0x1234, 0x26, false, "abcd"), 6, "a\nb c\nd");
        print(one(0x1234, 0x22, false, "abcd"), 6, "a bc d");
        print(one(0x1234, 0x22, false, "abcd"), 5, "a\nbc\nd");
    }

    private static void beginsWithADigit() {
        Checks.sentence("(hint 0 is taken as 1 when the latter one's print begins with a digit)");
        print(one(0x12, 0, false, "a 0"), 9, "a 0");
        print(one(0x12, 0, false, "a 9"), 9, "a 9");
        print(one(0x12, 0, false, "a /"), 9, "a/");
        print(one(0x12, 0, false, "a :"), 9, "a:");
        print(one(0x12, 0, false, "x 1"), 9, "x 1");
        print(one(0x12, 0, false, "a 1b"), 9, "a 1 b");
        print(one(0x12, 0, false, "a b1"), 9, "ab1");
        print(one(0x12, 0, false, "a{x}1"), 9, "a{x} 1");
        print(one(0x12, 0, false, "a{1}b"), 9, "a{1} b");
        print(one(0x12, 1, false, "a 1"), 9, "a 1");
        print(one(0x12, 2, false, "a 1"), 2, "a\n1");
        print(one(0x12, 2, false, "a 1"), 3, "a 1");
        print(one(0x12, 0, false, "1 2"), 9, "1 2");
        print(one(0x123, 0, false, "a 1 c"), 9, "a 1c");
        KindParser p = new KindParser();
        p.rule(9, 0x1A2, 0x2, true);
        p.rule(10, 0xB, 0, false);
        p.rule(11, 0x34, 0, false);
        Checks.repaired(p, "a 1 d b");
        // the print of a node does so, too, and the space is one of its flat width
        print(p, 6, "a 1d b");
        print(p, 5, "a 1d\n  b");
    }

    private static void theEnd() {
        Checks.sentence("The END's print (skipped tokens with their comments, then its own comments, each two with a "
                + "space between) comes behind the tree's on a line of its own, if it is not empty");
        print(one(0x12, 1, true, "a b"), 9, "a b");
        print(one(0x12, 1, true, "a b c"), 9, "a b\nc");
        print(one(0x12, 1, true, "a b{y}"), 9, "a b\n{y}");
        print(one(0x12, 1, true, "a b{y}{z}"), 9, "a b\n{y} {z}");
        print(one(0x12, 1, true, "a b{x}c d{y}{z}"), 9, "a b\n{x} c d {y} {z}");
        print(one(0x12, 1, true, "a b c1 2?"), 9, "a b\nc1 2 ?");
        // its line is no node's: no spaces, and no width
        print(one(0x12, 2, true, "a b c{y}"), 1, "a\n  b\nc {y}");
        print(one(0x12, 2, true, "a b c d e f g"), 3, "a b\nc d e f g");
        print(one(0x12, 1, true, "a b 1"), 9, "a b\n1");
        print(one(0x12, 1, true, "ab" + "{}{}{}{}c".repeat(8)), 9, "a b\n" + "{} {} {} {} c ".repeat(8).trim());
    }

    private static void theEndAlone() {
        Checks.sentence("when the tree's is empty it stands alone");
        print(one(0, 0, true, "{x} c 1{y}{z}d{w}"), 1, "{x} c 1 {y} {z} d {w}");
        print(one(0, 0, true, "c"), 1, "c");
        print(one(0, 0, true, "{x}"), 1, "{x}");
        print(one(0x1, 0, true, "{\n}"), 1, "{\n}");
        print(one(0, 0, true, "{}".repeat(40)), 1, "{} ".repeat(40).trim());
        print(one(0, 0, true, ""), 1, "");
        print(one(0x12345, 0xAA, true, " \n "), 1, "");
    }

    private static void flatWidth() {
        Checks.sentence("A node's FLAT width is how many characters its print has when neither it nor a node in it is "
                + "broken. .. a node is broken when it is wider than what is left of the width");
        KindParser p = one(0x12, 2, true, "a12 b45");
        print(p, 100, "a12 b45");
        print(p, 8, "a12 b45");
        print(p, 7, "a12 b45");
        print(p, 6, "a12\n  b45");
        print(p, 1, "a12\n  b45");
        KindParser least = one(0x12, 2, true, "ab");
        print(least, 3, "a b");
        print(least, 2, "a\n  b");
        KindParser full = one(0x12, 2, false, "a" + "1".repeat(39) + "b" + "2".repeat(39));
        print(full, 81, "a" + "1".repeat(39) + " b" + "2".repeat(39));
        print(full, 80, "a" + "1".repeat(39) + "\nb" + "2".repeat(39));
        // the spaces between comments and tokens are of it
        KindParser spaces = one(0x12345, 0x56, false, "{}a{}b{}c{}d1234567{}e");
        print(spaces, 31, "{} a {} b {} c {} d1234567 {} e");
        print(spaces, 30, "{} a {} b {} c {} d1234567\n{} e");
    }

    private static void flatWidthOfInnerNodes() {
        Checks.sentence("when neither it nor a node in it is broken");
        // comments, skipped tokens, hints of each kind and a digit's space, all in the width of 9
        KindParser p = new KindParser();
        p.rule(9, 0xA12, 0x2, false);
        p.rule(10, 0x3B, 0x1, true);
        p.rule(11, 0x44, 0x2, true);
        Checks.repaired(p, "{}x c d{}1 a b");
        String flat = "{} x c d {} 1a b";
        print(p, flat.length(), flat);
        print(p, flat.length() - 1, "{} x c d {} 1a\nb");
        // kind 10 alone is 13 wide, kind 11 begins at column 7
        print(p, 13, "{} x c d {} 1a\nb");
        print(p, 12, "{} x c d\n    {} 1a\nb");
    }

    private static void whatIsLeft() {
        Checks.sentence("Beginning at a column (the tree at 0), a node is broken when it is wider than what is left");
        print(nested(1, false, false, "abc"), 5, "a b c");
        print(nested(1, false, false, "abc"), 4, "a b\nc");
        print(nested(0, false, true, "abc"), 4, "ab c");
        print(nested(0, false, true, "abc"), 3, "ab\n  c");
        // kind 10 just fits, and just does not, behind the two spaces
        print(nested(2, true, false, "a123 bc"), 5, "a123\n  b c");
        print(nested(2, true, false, "a123 bc"), 4, "a123\n  b\n  c");
        // nothing is left, and less than nothing
        print(nested(1, false, true, "a1 b c"), 3, "a1 b\n  c");
        print(nested(1, false, true, "a12345 b c"), 3, "a12345 b\n  c");
        KindParser p = new KindParser();
        p.rule(9, 0xAAA, 0x5, true);
        p.rule(10, 0x12, 2, true);
        Checks.repaired(p, "ababab");
        print(p, 11, "a b a b a b");
        print(p, 10, "a b a b a\n    b");
        print(p, 7, "a b a b a\n    b");
        print(p, 6, "a b a\n    b a\n    b");
        print(p, 3, "a b a\n    b a\n    b");
        print(p, 2, "a\n    b a\n    b a\n    b");
    }

    private static void notBrokenWithin() {
        Checks.sentence("and otherwise neither it nor any node in it is");
        print(nested(2, true, true, "abc"), 5, "a b c");
        print(nested(2, true, true, "abc"), 4, "a\n  b\n    c");
        // the outer one is broken, the inner one is not
        print(nested(2, false, true, "abc"), 4, "a\nb c");
        print(nested(2, false, true, "abc"), 3, "a\nb c");
        print(nested(2, false, true, "abc"), 2, "a\nb\n  c");
        KindParser p = new KindParser();
        p.rule(9, 0xA1, 2, true);
        p.rule(10, 0x23, 2, true);
        Checks.repaired(p, "b c a");
        print(p, 5, "b c a");
        print(p, 4, "b c\n  a");
        print(p, 3, "b c\n  a");
        print(p, 2, "b\n    c\n  a");
    }

    private static void spacesBehindALineEnd() {
        Checks.sentence("Behind a line end come 2 spaces for each node that is broken, whose rule is IN, "
                + "and that has the next part in it");
        print(nested(2, true, true, "abc"), 1, "a\n  b\n    c");
        print(nested(1, true, true, "abc"), 1, "a b\n    c");
        print(nested(0, true, true, "abc"), 1, "ab\n    c");
        KindParser p = new KindParser();
        p.rule(9, 0xA1A, 0xA, true);
        p.rule(10, 0xBB, 0x2, true);
        p.rule(11, 0x23, 0x2, true);
        Checks.repaired(p, "bcbc a bcbc");
        print(p, 1, "b\n      c\n    b\n      c\n  a\n  b\n      c\n    b\n      c");
        print(p, 7, "b c b c\n  a\n  b c\n    b c");
    }

    private static void theNodeItself() {
        Checks.sentence("(the node itself, too)");
        print(one(0x12, 2, true, "ab"), 1, "a\n  b");
        print(one(0x12, 2, false, "ab"), 1, "a\nb");
        print(one(0x1234, 0x2A, true, "abcd"), 6, "a\n  b\n  c\n  d");
        // but not that which begins behind the line end, though it is broken and IN
        print(nested(2, false, true, "abc"), 1, "a\nb\n  c");
    }

    private static void onlyInAndBroken() {
        Checks.sentence("for each node that is broken, whose rule is IN");
        print(nested(2, true, false, "abc"), 1, "a\n  b\n  c");
        print(nested(2, false, false, "abc"), 1, "a\nb\nc");
        print(nested(1, true, false, "abc"), 1, "a b\n  c");
        print(nested(1, false, true, "abc"), 1, "a b\n  c");
        // a rule that is IN has no hint of 2 itself
        KindParser p = new KindParser();
        p.rule(9, 0xA, 0, true);
        p.rule(10, 0xB, 0, false);
        p.rule(11, 0xC, 0, true);
        p.rule(12, 0x12, 2, false);
        Checks.repaired(p, "ab");
        print(p, 3, "a b");
        print(p, 2, "a\n    b");
    }

    private static void lineEndInAComment() {
        Checks.sentence("(A line end in a comment counts as any character, and does not begin a line.");
        print(nested(1, false, false, "{\n}a b c"), 9, "{\n} a b c");
        print(nested(1, false, false, "{\n}a b c"), 8, "{\n} a b\nc");
        print(nested(1, false, false, "a {12\n3}b c"), 12, "a {12\n3} b c");
        print(nested(1, false, false, "a {12\n3}b c"), 11, "a {12\n3} b\nc");
        print(nested(2, true, true, "a {12\n3}b c"), 10, "a\n  {12\n3} b\n    c");
        print(nested(2, true, true, "a {12\n3}b c"), 11, "a\n  {12\n3} b\n    c");
        print(nested(2, true, true, "a {12\n3}b c"), 12, "a {12\n3} b c");
        // no spaces come behind it
        print(one(0x12, 2, true, "a{\n\n}b"), 1, "a\n  {\n\n} b");
    }

    private static void columnOfAPart() {
        Checks.sentence("The column of a part is that behind what comes before it.)");
        // kind 10 begins behind a12 and a space, or behind a line end and the two spaces
        print(nested(1, true, true, "a12 bc"), 7, "a12 b c");
        print(nested(1, true, true, "a12 bc"), 6, "a12 b\n    c");
        print(nested(0, true, true, "a12 bc"), 6, "a12b c");
        print(nested(0, true, true, "a12 bc"), 5, "a12b\n    c");
        print(nested(2, true, true, "a12 bc"), 6, "a12\n  b c");
        print(nested(2, true, true, "a12 bc"), 5, "a12\n  b c");
        print(nested(2, true, true, "a12 bc"), 4, "a12\n  b\n    c");
        // what comes before it may itself have been broken: the last line of it counts
        KindParser p = new KindParser();
        p.rule(9, 0xAA, 1, false);
        p.rule(10, 0x12, 2, false);
        Checks.repaired(p, "a12345 b a b");
        print(p, 5, "a12345\nb a b");
        print(p, 4, "a12345\nb a\nb");
        // a first part begins where its node does
        KindParser first = new KindParser();
        first.rule(9, 0x1A, 1, false);
        first.rule(10, 0xB3, 1, false);
        first.rule(11, 0x22, 2, false);
        Checks.repaired(first, "a b b c");
        print(first, 5, "a b b c");
        print(first, 4, "a b\nb c");
    }

    /** Six nodes to each of six a, then five nodes of two b, all of them IN: 36 nodes hold the last. */
    private static KindParser deepest() {
        KindParser p = new KindParser();
        p.rule(9, 0x1A, 2, true);
        for (int kind = 10; kind <= 13; kind++) {
            p.rule(kind, kind + 1, 0, true);
        }
        p.rule(14, 0x9, 0, true);
        p.rule(14, 0x99999, 0xAA, true);
        p.rule(9, 0x22, 2, true);
        Checks.repaired(p, "a1234".repeat(6) + "b5678".repeat(10));
        return p;
    }

    private static void longestPrint() {
        Checks.sentence("a node within more than 36 others .. 2 spaces for each node that is broken");
        StringBuilder want = new StringBuilder("a1234");
        for (int line = 1; line < 6; line++) {
            want.append('\n').append(" ".repeat(12 * line - 10)).append("a1234");
        }
        want.append('\n').append(" ".repeat(62)).append("b5678\n").append(" ".repeat(74)).append("b5678");
        for (int line = 1; line < 5; line++) {
            want.append('\n').append(" ".repeat(72)).append("b5678\n").append(" ".repeat(74)).append("b5678");
        }
        Checks.due("print(1)", deepest().print(1), want.length());
        // an object is used for 512 calls at most
        StringBuilder got = new StringBuilder();
        for (int from = 0; from < want.length(); from += 400) {
            KindParser p = deepest();
            p.print(1);
            for (int i = from; i < Math.min(want.length(), from + 400); i++) {
                got.append((char) p.character(i));
            }
        }
        Checks.same("its characters", got.toString(), want.toString());
        KindParser flat = deepest();
        print(flat, 95, "a1234 ".repeat(6) + "b5678 ".repeat(9) + "b5678");
        Checks.due("print(94)", flat.print(94), 97);
    }

    private static void mostParts() {
        Checks.sentence("those of its parts that are not empty .. the tree has more than 150 parts");
        KindParser p = Checks.grammar(9, 0xA9, 10, 0xB, 11, 0xC, 12, 0xD, 13, 0x1EEE, 9, 0xEEEEE, 14, 0);
        Checks.due("repair", Checks.repaired(p, "a".repeat(16)), 0);
        Checks.due("parts", p.parts(), 150);
        print(p, 1, "a".repeat(16));
        print(p, 100, "a".repeat(16));
        KindParser empty = Checks.grammar(14, 0x11111, 13, 0xEEEEE, 11, 0xEEEE, 9, 0xDDDDB);
        empty.repair();
        Checks.due("parts", empty.parts(), 150);
        print(empty, 1, "");
    }

    private static void ofThisTreeAlone() {
        Checks.sentence("Lays the tree out");
        KindParser p = new KindParser();
        p.rule(9, 0x19, 2, true);
        p.rule(9, 0, 0, false);
        Checks.repaired(p, "a1a2a3a4{x}");
        print(p, 1, "a1\n  a2\n    a3\n      a4\n{x}");
        // of a tree that had more parts, tokens and comments nothing is left
        Checks.repaired(p, "a5");
        print(p, 1, "a5");
        Checks.repaired(p, "a6 a7{y}{z}");
        print(p, 1, "a6\n  a7\n{y} {z}");
        Checks.repaired(p, "");
        print(p, 1, "");
    }

    private static void howManyCharacters() {
        Checks.sentence("Lays the tree out in a width: how many characters the print has");
        Checks.due("none", one(0, 0, false, "").print(1), 0);
        Checks.due("one", one(1, 0, false, "a").print(1), 1);
        Checks.due("a line end and spaces", one(0x12, 2, true, "ab").print(1), 5);
        Checks.due("with the END's", one(0x12, 2, true, "ab c").print(3), 5);
        Checks.due("80 as they are", one(1, 0, false, "a" + "1".repeat(79)).print(1), 80);
    }

    private static void widthIsNotAllowed() {
        Checks.sentence("IllegalArgumentException, when width is not 1 .. 100");
        KindParser p = one(0x12, 2, true, "a b");
        for (int width : new int[] {0, -1, 101, 102, Integer.MIN_VALUE, Integer.MAX_VALUE}) {
            Checks.refused("print(" + width + ")", Checks.ARGUMENT, () -> p.print(width));
        }
        Checks.due("print(1)", p.print(1), 5);
        Checks.due("print(100)", p.print(100), 3);
        String comments = "{} ".repeat(30);
        print(one(0x12, 2, false, "{}".repeat(30) + "ab1234567"), 100, comments + "a b1234567");
        print(one(0x12, 2, false, "{}".repeat(30) + "ab12345678"), 100, comments + "a\nb12345678");
    }

    private static void noTree() {
        Checks.sentence("print: IllegalStateException, when there is no tree");
        KindParser p = new KindParser();
        Checks.refused("of a new object", Checks.STATE, () -> p.print(1));
        p.rule(9, 1, 0, false);
        Checks.refused("not repaired", Checks.STATE, () -> p.print(100));
        p.repair();
        Checks.due("of an empty text", p.print(1), 0);
        p.rule(9, 2, 0, false);
        Checks.refused("a new rule", Checks.STATE, () -> p.print(1));
        p.repair();
        Checks.retype(p, "a".repeat(17));
        Checks.refused("repair", Checks.STATE, p::repair);
        Checks.refused("a repair that failed", Checks.STATE, () -> p.print(1));
    }

    private static void printedLast() {
        Checks.sentence("Character i of what was printed last");
        KindParser p = one(0x12, 2, true, "a b c");
        print(p, 1, "a\n  b\nc");
        Checks.repaired(p, "d");
        Checks.same("repair leaves it", Checks.page(p), "a\n  b\nc");
        print(p, 1, "d");
        Checks.refused("of the longer one nothing is left", Checks.INDEX, () -> p.character(1));
        Checks.repaired(p, "");
        print(p, 1, "");
        Checks.refused("nor of the shorter one", Checks.INDEX, () -> p.character(0));
        Checks.repaired(p, "{~} !");
        print(p, 50, "{~} !");
        Checks.due("the greatest character", p.character(1), 126);
        Checks.due("the least that is no line end", p.character(3), 32);
    }

    private static void alsoWhenTheTreeIsGone() {
        Checks.sentence("(also when the tree is gone)");
        KindParser p = one(0x12, 2, true, "a b c");
        print(p, 1, "a\n  b\nc");
        p.erase();
        Checks.same("behind erase", Checks.page(p), "a\n  b\nc");
        p.rule(10, 0, 0, false);
        Checks.same("behind a rule", Checks.page(p), "a\n  b\nc");
        Checks.refused("print without a tree", Checks.STATE, () -> p.print(1));
        Checks.same("behind a refused print", Checks.page(p), "a\n  b\nc");
        Checks.type(p, "?".repeat(17));
        Checks.refused("repair", Checks.STATE, p::repair);
        Checks.same("behind a repair that failed", Checks.page(p), "a\n  b\nc");
    }

    private static void noSuchCharacter() {
        Checks.sentence("character: IndexOutOfBoundsException, when there is none");
        KindParser fresh = new KindParser();
        KindParser unprinted = one(0x1, 0, false, "a");
        KindParser empty = one(0, 0, false, "");
        empty.print(1);
        for (int i : new int[] {0, -1, 1, Integer.MIN_VALUE, Integer.MAX_VALUE}) {
            Checks.refused("new: character(" + i + ")", Checks.INDEX, () -> fresh.character(i));
            Checks.refused("not printed: character(" + i + ")", Checks.INDEX, () -> unprinted.character(i));
            Checks.refused("printed empty: character(" + i + ")", Checks.INDEX, () -> empty.character(i));
        }
        KindParser p = one(0x12, 2, true, "a b");
        p.print(1);
        for (int i : new int[] {-1, 5, 6, Integer.MIN_VALUE, Integer.MAX_VALUE}) {
            Checks.refused("character(" + i + ")", Checks.INDEX, () -> p.character(i));
        }
        Checks.due("the first", p.character(0), 'a');
        Checks.due("a line end", p.character(1), 10);
        Checks.due("a space", p.character(2), 32);
        Checks.due("the last", p.character(4), 'b');
    }
}
