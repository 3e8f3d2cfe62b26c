/** TEXT of the terms; promises 3 (write), 4 (erase), 6 (tokens) and 7 (token). */
final class TextTest {
    public static void main(String[] args) {
        letters();
        digitsBehindALetter();
        comments();
        commentWithoutAnEnd();
        blanks();
        oddCharacters();
        atMostSixteenTokens();
        commentsBelongToTheNext();
        commentsOfTheEnd();
        lowestBytesFirst();
        howManyItHas();
        nIsNotOneToEight();
        characters();
        onlyTheLowestBytesAreLookedAt();
        moreThanEighty();
        writeLeavesTheTree();
        erase();
        eraseKeepsTheTree();
        tokensWithoutATree();
        tokensOfTheRepairedText();
        tokenRows();
        tokenOfTheEnd();
        noSuchToken();
        noSuchWhat();
        tokenWithoutATree();
        Checks.end();
    }

    /** Kind 9 is nothing, so that each text is taken and left to the END. */
    private static KindParser withRule() {
        return Checks.grammar(9, 0);
    }

    private static void cut(String text, String want) {
        KindParser p = withRule();
        Checks.repaired(p, text);
        Checks.same("tokens of " + Checks.shown(text), Checks.tokenRows(p), want);
    }

    private static void letters() {
        Checks.sentence("a TOKEN is a letter a .. h .., of the sign of the letter");
        cut("abcdefgh", "1 1 0; 2 1 0; 3 1 0; 4 1 0; 5 1 0; 6 1 0; 7 1 0; 8 1 0; 0 0 0");
        cut("i`", "0 1 0; 0 1 0; 0 0 0");
        cut("AHz", "0 1 0; 0 1 0; 0 1 0; 0 0 0");
        cut("aa", "1 1 0; 1 1 0; 0 0 0");
    }

    private static void digitsBehindALetter() {
        Checks.sentence("with all digits behind it");
        cut("a0123456789b", "1 11 0; 2 1 0; 0 0 0");
        cut("h9 8", "8 2 0; 0 1 0; 0 0 0");
        cut("a/1", "1 1 0; 0 1 0; 0 1 0; 0 0 0");
        cut("a:1", "1 1 0; 0 1 0; 0 1 0; 0 0 0");
        cut("a\n1", "1 1 0; 0 1 0; 0 0 0");
        cut("a{1}2", "1 1 0; 0 1 1; 0 0 0");
        cut("12a", "0 1 0; 0 1 0; 1 1 0; 0 0 0");
        cut("i1", "0 1 0; 0 1 0; 0 0 0");
        cut("a" + "5".repeat(79), "1 80 0; 0 0 0");
        cut(" ".repeat(78) + "b7", "2 2 0; 0 0 0");
    }

    private static void comments() {
        Checks.sentence("a COMMENT is { and what follows up to the next }, with it");
        cut("{}", "0 0 1");
        cut("{}{}", "0 0 2");
        cut("{a1b?}", "0 0 1");
        cut("{\n a}", "0 0 1");
        cut("{a{b}c}", "3 1 1; 0 1 0; 0 0 0");
        cut("{{{}", "0 0 1");
        cut("{}}", "0 1 1; 0 0 0");
        cut("}{}", "0 1 0; 0 0 1");
        cut("{" + "x".repeat(78) + "}", "0 0 1");
        KindParser p = withRule();
        Checks.repaired(p, "{a1b?} a");
        Checks.same("its print is all of it", Checks.printed(p, 1), "{a1b?} a");
    }

    private static void commentWithoutAnEnd() {
        Checks.sentence("(without one: an ODD token)");
        cut("{", "0 1 0; 0 0 0");
        cut("{a1", "0 1 0; 1 2 0; 0 0 0");
        cut("}{a", "0 1 0; 0 1 0; 1 1 0; 0 0 0");
        cut("{}{", "0 1 1; 0 0 0");
        cut("{{", "0 1 0; 0 1 0; 0 0 0");
        cut(" ".repeat(79) + "{", "0 1 0; 0 0 0");
        cut(" ".repeat(78) + "{}", "0 0 1");
    }

    private static void blanks() {
        Checks.sentence("blanks are 32 and 10");
        cut("", "0 0 0");
        cut(" ", "0 0 0");
        cut("\n", "0 0 0");
        cut(" \n \n", "0 0 0");
        cut(" ".repeat(40) + "\n".repeat(40), "0 0 0");
        cut(" ".repeat(79) + "a", "1 1 0; 0 0 0");
        cut("\n".repeat(79) + "?", "0 1 0; 0 0 0");
        cut("!", "0 1 0; 0 0 0");
    }

    private static void oddCharacters() {
        Checks.sentence("any other character is an ODD token, of no sign");
        for (int c = 33; c <= 126; c++) {
            int sign = c >= 'a' && c <= 'h' ? c - 'a' + 1 : 0;
            cut(Character.toString(c), sign + " 1 0; 0 0 0");
        }
        cut("??", "0 1 0; 0 1 0; 0 0 0");
        cut("12", "0 1 0; 0 1 0; 0 0 0");
    }

    private static void atMostSixteenTokens() {
        Checks.sentence("Tokens are numbered from 0; at most 16 are allowed.");
        KindParser p = withRule();
        Checks.due("16", Checks.repaired(p, "a1".repeat(15) + "h"), 16);
        Checks.due("tokens()", p.tokens(), 16);
        Checks.due("token(0, 0)", p.token(0, 0), 1);
        Checks.due("token(15, 0)", p.token(15, 0), 8);
        Checks.due("blanks and comments are none", Checks.repaired(p, "{} a\n".repeat(16)), 16);
        Checks.due("nor is one behind them", Checks.repaired(p, "{a}b".repeat(16) + "{c}{d}"), 16);
        Checks.retype(p, "a1".repeat(15) + "hh");
        Checks.refused("17", Checks.STATE, p::repair);
        Checks.retype(p, "?".repeat(17));
        Checks.refused("17 odd ones", Checks.STATE, p::repair);
        Checks.retype(p, "a".repeat(16) + " {");
        Checks.refused("the 17th is a { alone", Checks.STATE, p::repair);
        Checks.retype(p, "?".repeat(80));
        Checks.refused("80", Checks.STATE, p::repair);
    }

    private static void commentsBelongToTheNext() {
        Checks.sentence("A comment belongs to the next token");
        cut("{}a", "1 1 1; 0 0 0");
        cut("{x} {y}\na1 {z} b", "1 2 2; 2 1 1; 0 0 0");
        cut("a{x}b", "1 1 0; 2 1 1; 0 0 0");
        cut("{}".repeat(39) + " a", "1 1 39; 0 0 0");
    }

    private static void commentsOfTheEnd() {
        Checks.sentence("or, behind the last one, to the END");
        cut("a{}", "1 1 0; 0 0 1");
        cut("{x}a{u}{v} {w}", "1 1 1; 0 0 3");
        cut("{}".repeat(40), "0 0 40");
        cut("a" + "{}".repeat(39), "1 1 0; 0 0 39");
        cut("abcdefghabcdefgh{}", "1 1 0; 2 1 0; 3 1 0; 4 1 0; 5 1 0; 6 1 0; 7 1 0; 8 1 0; "
                + "1 1 0; 2 1 0; 3 1 0; 4 1 0; 5 1 0; 6 1 0; 7 1 0; 8 1 0; 0 0 1");
    }

    private static void lowestBytesFirst() {
        Checks.sentence("The n lowest bytes of eight come as characters behind the text, the lowest first");
        String signs = "";
        for (int n = 1; n <= 8; n++) {
            KindParser p = withRule();
            signs += n + " 1 0; ";
            Checks.due("write of " + n, p.write(Checks.packed("abcdefgh"), n), n);
            p.repair();
            Checks.same("its tokens", Checks.tokenRows(p), signs + "0 0 0");
        }
        KindParser p = withRule();
        p.write(Checks.packed("a1"), 2);
        p.write(Checks.packed("23b"), 3);
        p.repair();
        Checks.same("behind what is there", Checks.tokenRows(p), "1 4 0; 2 1 0; 0 0 0");
    }

    private static void howManyItHas() {
        Checks.sentence("write: .. how many it has");
        KindParser p = withRule();
        int length = 0;
        for (int n = 1; n <= 8; n++) {
            length += n;
            Checks.due("write of " + n, p.write(Checks.packed("aaaaaaaa"), n), length);
        }
        Checks.due("erase()", p.erase(), 36);
        Checks.due("from the beginning again", p.write('a', 1), 1);
    }

    private static void nIsNotOneToEight() {
        Checks.sentence("IllegalArgumentException, when n is not 1 .. 8");
        KindParser p = withRule();
        for (int n : new int[] {0, -1, -8, 9, 10, 16, 64, 65, Integer.MIN_VALUE, Integer.MAX_VALUE}) {
            Checks.refused("n " + n, Checks.ARGUMENT, () -> p.write(Checks.packed("aaaaaaaa"), n));
        }
        Checks.due("nothing came", p.erase(), 0);
        Checks.due("n 1", p.write(Checks.packed("aaaaaaaa"), 1), 1);
        Checks.due("n 8", p.write(Checks.packed("aaaaaaaa"), 8), 9);
    }

    private static void characters() {
        Checks.sentence("or one of them is no character (10 or 32 .. 126)");
        for (int c = 0; c < 256; c++) {
            oneCharacter(c);
        }
    }

    private static void oneCharacter(int c) {
        KindParser p = withRule();
        boolean right = c == 10 || c >= 32 && c <= 126;
        for (int place = 0; place < 8; place++) {
            int n = place + 1;
            long eight = 0x6161616161616161L & ~(255L << 8 * place) | (long) c << 8 * place;
            if (right) {
                Checks.due("character " + c + " at " + place, p.write(eight, 8), 8);
                Checks.due("as the last of " + n, p.write(eight, n), 8 + n);
            } else {
                Checks.refused("character " + c + " at " + place, Checks.ARGUMENT, () -> p.write(eight, 8));
                Checks.refused("as the last of " + n, Checks.ARGUMENT, () -> p.write(eight, n));
            }
            Checks.due("what came", p.erase(), right ? 8 + n : 0);
        }
    }

    private static void onlyTheLowestBytesAreLookedAt() {
        Checks.sentence("The n lowest bytes of eight");
        for (int n = 1; n < 8; n++) {
            KindParser p = withRule();
            long zeros = Checks.packed("abcdefgh".substring(0, n));
            Checks.due("zeros above " + n, p.write(zeros, n), n);
            Checks.due("ones above " + n, p.write(zeros | -1L << 8 * n, n), 2 * n);
            p.repair();
            Checks.due("tokens()", p.tokens(), 2 * n);
        }
    }

    private static void moreThanEighty() {
        Checks.sentence("IllegalStateException, when there would be more than 80");
        for (int room = 0; room <= 8; room++) {
            KindParser p = withRule();
            Checks.due("fill", Checks.type(p, "a" + "0".repeat(79 - room)), 80 - room);
            for (int n = room + 1; n <= 8; n++) {
                int more = n;
                Checks.refused(n + " in a room for " + room, Checks.STATE, () -> p.write(Checks.packed("11111111"), more));
            }
            if (room > 0) {
                Checks.due(room + " in a room for " + room, p.write(Checks.packed("22222222"), room), 80);
            }
            Checks.refused("one more", Checks.STATE, () -> p.write('3', 1));
            p.repair();
            Checks.due("80 characters in one token", p.token(0, 1), 80);
            Checks.due("erase()", p.erase(), 80);
            Checks.due("there is room again", p.write('b', 1), 1);
        }
    }

    private static void writeLeavesTheTree() {
        Checks.sentence("write .. come .. behind the text (and nothing else is said to change)");
        KindParser p = Checks.grammar(9, 0x12);
        Checks.repaired(p, "a{x}b");
        p.print(3);
        String before = Checks.state(p);
        p.write('g', 1);
        Checks.same("state", Checks.state(p), before);
        Checks.due("repair with it", p.repair(), 1);
        Checks.due("tokens with it", p.tokens(), 3);
    }

    private static void erase() {
        Checks.sentence("The text is empty: how many characters it had.");
        KindParser p = withRule();
        Checks.due("of an empty text", p.erase(), 0);
        p.write('a', 1);
        Checks.due("of one character", p.erase(), 1);
        Checks.due("and once more", p.erase(), 0);
        Checks.type(p, "?".repeat(80));
        Checks.due("of a full text", p.erase(), 80);
        Checks.due("repair of nothing", p.repair(), 0);
        Checks.due("tokens()", p.tokens(), 0);
        Checks.due("there is room for 80", Checks.type(p, " ".repeat(80)), 80);
    }

    private static void eraseKeepsTheTree() {
        Checks.sentence("The tree stays (with its tokens).");
        KindParser p = Checks.grammar(9, 0x12);
        Checks.repaired(p, "a{x}b c{y}");
        p.print(9);
        String before = Checks.state(p);
        Checks.due("erase()", p.erase(), 10);
        Checks.same("state", Checks.state(p), before);
        Checks.type(p, "hhhhhhhhhhhh");
        Checks.same("and prints the repaired text", Checks.printed(p, 50), "a{x} b\nc {y}");
        Checks.due("erase()", p.erase(), 12);
        Checks.same("its tokens", Checks.tokenRows(p), "1 1 0; 2 1 1; 3 1 0; 0 0 1");
    }

    private static void tokensWithoutATree() {
        Checks.sentence("tokens: .. 0 when there is no tree");
        KindParser p = new KindParser();
        Checks.due("of a new object", p.tokens(), 0);
        Checks.type(p, "ab");
        p.rule(9, 1, 0, false);
        Checks.due("of a text that is not repaired", p.tokens(), 0);
        p.repair();
        Checks.due("when it is", p.tokens(), 2);
        p.rule(9, 2, 0, false);
        Checks.due("when the tree is gone", p.tokens(), 0);
        p.repair();
        Checks.retype(p, "a".repeat(17));
        Checks.refused("repair", Checks.STATE, p::repair);
        Checks.due("behind a repair that failed", p.tokens(), 0);
    }

    private static void tokensOfTheRepairedText() {
        Checks.sentence("How many tokens the repaired text has");
        KindParser p = withRule();
        for (int n = 0; n <= 16; n++) {
            Checks.repaired(p, "a".repeat(n));
            Checks.due("tokens()", p.tokens(), n);
        }
        Checks.retype(p, "abc");
        Checks.due("of that which is repaired, not of the text", p.tokens(), 16);
        p.repair();
        Checks.due("now it is", p.tokens(), 3);
    }

    private static void tokenRows() {
        Checks.sentence("Of token k of the repaired text: its sign (what 0; 0 when it is odd), its length (1), "
                + "how many comments belong to it (2)");
        KindParser p = withRule();
        Checks.repaired(p, "{}a12{}{}?{}h");
        int[][] rows = {{1, 3, 1}, {0, 1, 2}, {8, 1, 1}};
        for (int k = 0; k < 3; k++) {
            for (int what = 0; what < 3; what++) {
                Checks.due("token(" + k + ", " + what + ")", p.token(k, what), rows[k][what]);
            }
        }
    }

    private static void tokenOfTheEnd() {
        Checks.sentence("for k = tokens() the last of these of the END, and 0 else");
        String[] texts = {"", "{}", "a12", "a12{}{}", "abcdefghabcdefgh{}{}{}"};
        int[] due = {0, 1, 0, 2, 3};
        for (int at = 0; at < texts.length; at++) {
            KindParser p = withRule();
            // what an earlier text had there may not be left
            Checks.repaired(p, "h99".repeat(16) + "{}");
            Checks.repaired(p, texts[at]);
            Checks.due("sign", p.token(p.tokens(), 0), 0);
            Checks.due("length", p.token(p.tokens(), 1), 0);
            Checks.due("comments", p.token(p.tokens(), 2), due[at]);
        }
    }

    private static void noSuchToken() {
        Checks.sentence("token: IndexOutOfBoundsException, when there is no .. token");
        for (int n : new int[] {0, 1, 16}) {
            KindParser p = withRule();
            Checks.repaired(p, "a".repeat(n));
            for (int k : new int[] {-1, n + 1, n + 2, Integer.MIN_VALUE, Integer.MAX_VALUE}) {
                for (int what = 0; what < 3; what++) {
                    int asked = what;
                    Checks.refused("token(" + k + ", " + what + ")", Checks.INDEX, () -> p.token(k, asked));
                }
            }
            Checks.due("the first", p.token(0, 0), n == 0 ? 0 : 1);
            Checks.due("the last is the END", p.token(n, 0), 0);
        }
    }

    private static void noSuchWhat() {
        Checks.sentence("token: IndexOutOfBoundsException, when there is no .. what");
        KindParser p = withRule();
        Checks.repaired(p, "a1{}");
        for (int what : new int[] {-1, 3, 4, Integer.MIN_VALUE, Integer.MAX_VALUE}) {
            Checks.refused("token(0, " + what + ")", Checks.INDEX, () -> p.token(0, what));
            Checks.refused("token(1, " + what + ")", Checks.INDEX, () -> p.token(1, what));
        }
        Checks.due("the first what", p.token(0, 0), 1);
        Checks.due("the last what", p.token(0, 2), 0);
    }

    private static void tokenWithoutATree() {
        Checks.sentence("token: IndexOutOfBoundsException, when there is no tree");
        KindParser p = new KindParser();
        Checks.type(p, "ab{}");
        noToken(p);
        p.rule(9, 0x12, 0, false);
        noToken(p);
        p.repair();
        Checks.due("token(2, 2)", p.token(2, 2), 1);
        p.rule(10, 0x12, 0, false);
        noToken(p);
        p.repair();
        Checks.type(p, "?".repeat(17));
        Checks.refused("repair", Checks.STATE, p::repair);
        noToken(p);
    }

    private static void noToken(KindParser p) {
        for (int k = -1; k <= 3; k++) {
            for (int what = -1; what <= 3; what++) {
                int token = k;
                int asked = what;
                Checks.refused("token(" + k + ", " + what + ")", Checks.INDEX, () -> p.token(token, asked));
            }
        }
    }
}
