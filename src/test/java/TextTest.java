/** Promises 3 (write), 4 (erase), 6 (tokens) and 7 (token). */
final class TextTest {
    public static void main(String[] args) {
        write();
        wrongWrites();
        fullText();
        erase();
        cuts();
        comments();
        tokenEdges();
        Checks.end();
    }

    private static KindParser withRule() {
        KindParser p = new KindParser();
        p.rule(9, 0, 0, false);
        return p;
    }

    private static void cut(String text, String want) {
        KindParser p = withRule();
        Checks.repaired(p, text);
        Checks.same("tokens of " + Checks.shown(text), Checks.tokenRows(p), want);
    }

    private static void write() {
        KindParser p = withRule();
        Checks.due("write of one", p.write('a', 1), 1);
        Checks.due("write of eight", p.write(Checks.packed("1bc{x}d~"), 8), 9);
        Checks.due("only the lowest count", p.write(0xFF00FF0000006665L, 2), 11);
        p.repair();
        Checks.same("the lowest comes first", Checks.tokenRows(p),
                "1 2 0; 2 1 0; 3 1 0; 4 1 1; 0 1 0; 5 1 0; 6 1 0; 0 0 0");
        Checks.due("write leaves the tree", p.write('g', 1), 12);
        Checks.due("write leaves the tokens", p.tokens(), 7);
        Checks.due("repair with it", p.repair(), 8);
        Checks.due("tokens with it", p.tokens(), 8);
    }

    private static void wrongWrites() {
        KindParser p = withRule();
        p.write(Checks.packed("ab"), 2);
        for (int n : new int[] {0, -1, 9, 16, Integer.MIN_VALUE, Integer.MAX_VALUE}) {
            Checks.refused("n " + n, Checks.ARGUMENT, () -> p.write(0x6161616161616161L, n));
        }
        Checks.refused("the last of eight", Checks.ARGUMENT, () -> p.write(0x7F61616161616161L, 8));
        p.repair();
        Checks.same("what was refused left nothing", Checks.tokenRows(p), "1 1 0; 2 1 0; 0 0 0");
        for (int c = 0; c < 256; c++) {
            oneCharacter(c);
        }
    }

    private static void oneCharacter(int c) {
        KindParser p = withRule();
        boolean right = c == 10 || c >= 32 && c <= 126;
        for (int place = 0; place < 8; place++) {
            int below = place;
            long eight = 0x6161616161616161L & ~(255L << 8 * place) | (long) c << 8 * place;
            if (right) {
                Checks.due("character " + c + " at " + place, p.write(eight, 8), 8);
            } else {
                Checks.refused("character " + c + " at " + place, Checks.ARGUMENT, () -> p.write(eight, 8));
                Checks.refused("the last of fewer", Checks.ARGUMENT, () -> p.write(eight, below + 1));
            }
            p.erase();
            if (place > 0) {
                Checks.due("those below character " + c, p.write(eight, place), place);
            }
            p.erase();
        }
    }

    private static void fullText() {
        KindParser p = withRule();
        Checks.due("79", Checks.type(p, "a" + "0".repeat(78)), 79);
        Checks.refused("two more", Checks.STATE, () -> p.write(Checks.packed("12"), 2));
        Checks.refused("eight more", Checks.STATE, () -> p.write(Checks.packed("12345678"), 8));
        Checks.refused("two more, one is none", Checks.ARGUMENT, () -> p.write(0x3101, 2));
        Checks.refused("nine more", Checks.ARGUMENT, () -> p.write(0x31, 9));
        p.repair();
        Checks.due("a refused write left nothing", p.token(0, 1), 79);
        Checks.due("one more", p.write('7', 1), 80);
        Checks.refused("81", Checks.STATE, () -> p.write('7', 1));
        Checks.refused("81, no character", Checks.ARGUMENT, () -> p.write(7, 1));
        p.repair();
        Checks.due("80 characters in one token", p.token(0, 1), 80);
        Checks.due("erase()", p.erase(), 80);
        Checks.due("room again", p.write('b', 1), 1);
    }

    private static void erase() {
        KindParser p = new KindParser();
        p.rule(9, 0x12, 1, false);
        Checks.type(p, "a{x}b{y}");
        p.repair();
        p.print(9);
        String before = Checks.state(p);
        Checks.due("erase()", p.erase(), 8);
        Checks.same("the tree stays with its tokens", Checks.state(p), before);
        Checks.type(p, "hhhh");
        Checks.same("and prints the repaired text", Checks.printed(p, 50), "a {x} b\n{y}");
        Checks.due("erase()", p.erase(), 4);
        Checks.due("erase() of nothing", p.erase(), 0);
        Checks.due("repair of nothing", p.repair(), 2);
        Checks.due("tokens()", p.tokens(), 0);
        Checks.due("no comment of the END either", p.token(0, 2), 0);
    }

    private static void cuts() {
        cut("", "0 0 0");
        cut(" \n \n", "0 0 0");
        cut(" ".repeat(79) + "a", "1 1 0; 0 0 0");
        cut("\n".repeat(79) + "?", "0 1 0; 0 0 0");
        cut("abcdefgh", "1 1 0; 2 1 0; 3 1 0; 4 1 0; 5 1 0; 6 1 0; 7 1 0; 8 1 0; 0 0 0");
        cut("i`", "0 1 0; 0 1 0; 0 0 0");
        cut("AH", "0 1 0; 0 1 0; 0 0 0");
        cut("a0123456789b", "1 11 0; 2 1 0; 0 0 0");
        cut("h9 8", "8 2 0; 0 1 0; 0 0 0");
        cut("12a", "0 1 0; 0 1 0; 1 1 0; 0 0 0");
        cut("a\n1", "1 1 0; 0 1 0; 0 0 0");
        cut("a/1", "1 1 0; 0 1 0; 0 1 0; 0 0 0");
        cut("a:1", "1 1 0; 0 1 0; 0 1 0; 0 0 0");
        cut("x1", "0 1 0; 0 1 0; 0 0 0");
        cut("}a}", "0 1 0; 1 1 0; 0 1 0; 0 0 0");
        cut("~!|", "0 1 0; 0 1 0; 0 1 0; 0 0 0");
    }

    private static void comments() {
        cut("{}", "0 0 1");
        cut("{}{}", "0 0 2");
        cut("a{}", "1 1 0; 0 0 1");
        cut("{}a", "1 1 1; 0 0 0");
        cut("{x}{y}a1{z}b{u}{v}{w}", "1 2 2; 2 1 1; 0 0 3");
        cut("a{1}2", "1 1 0; 0 1 1; 0 0 0");
        cut("{a{b}c}", "3 1 1; 0 1 0; 0 0 0");
        cut("{\n a}", "0 0 1");
        cut("{", "0 1 0; 0 0 0");
        cut("{a1", "0 1 0; 1 2 0; 0 0 0");
        cut("{{}{", "0 1 1; 0 0 0");
        cut("{}".repeat(40), "0 0 40");
        cut("{}".repeat(39) + " a", "1 1 39; 0 0 0");
    }

    private static void tokenEdges() {
        KindParser p = withRule();
        Checks.repaired(p, "a1{x}");
        Checks.due("tokens()", p.tokens(), 1);
        int[][] none = {{-1, 0}, {-1, 2}, {2, 0}, {2, 2}, {0, -1}, {0, 3}, {1, 3}, {1, -1},
            {Integer.MIN_VALUE, 0}, {Integer.MAX_VALUE, 2}, {0, Integer.MAX_VALUE}, {0, Integer.MIN_VALUE}};
        for (int[] pair : none) {
            Checks.refused("token(" + pair[0] + ", " + pair[1] + ")", Checks.INDEX, () -> p.token(pair[0], pair[1]));
        }
        Checks.retype(p, "a".repeat(16));
        Checks.due("16 tokens", p.repair(), 16);
        Checks.due("tokens()", p.tokens(), 16);
        Checks.due("the last one", p.token(15, 0), 1);
        Checks.due("the END", p.token(16, 2), 0);
        Checks.refused("behind the END", Checks.INDEX, () -> p.token(17, 2));
    }
}
