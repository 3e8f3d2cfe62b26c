/** Many runs of calls, the same ones each time, whose answers must be those of the model. */
final class ModelTest {
    /** What an object answers after as many calls is free. */
    private static final int MOST_CALLS = 512;
    private static final String[] ALPHABETS = {"ab", "abc ", "abcdefgh", "ab12 ?", "a1b{}{} \n", "aab{x}1 \nc{}"};

    private final int run;
    private long seed;
    private int calls = 0;
    private final KindParser parser;
    private final Model model;
    private final int kinds;
    private final int signs;
    private final int most;
    private final String alphabet;

    private ModelTest(int run) {
        this.run = run;
        this.seed = run * 7919L + 17;
        kinds = 1 + next(6);
        signs = 1 + next(3);
        most = 1 + next(5);
        alphabet = ALPHABETS[next(ALPHABETS.length)];
        parser = new KindParser();
        model = new Model();
    }

    public static void main(String[] args) {
        Checks.sentence("the whole document, as Model reads it");
        int runs = args.length > 0 ? Integer.parseInt(args[0]) : 6000;
        for (int run = 0; run < runs; run++) {
            new ModelTest(run).play();
        }
        Checks.end();
    }

    private int next(int bound) {
        seed = seed * 6364136223846793005L + 1442695040888963407L;
        return (int) ((seed >>> 33) % bound);
    }

    private void play() {
        int first = 1 + next(7);
        for (int at = 0; at < first; at++) {
            addRule();
        }
        for (int at = 0; at < 12 && calls < MOST_CALLS; at++) {
            step();
        }
    }

    private void step() {
        switch (next(12)) {
            case 0:
                addRule();
                break;
            case 1:
                compare("erase()", parser::erase, model::erase);
                break;
            case 2:
                wrongCall();
                break;
            case 3:
            case 4:
            case 5:
                addText();
                break;
            case 6:
            case 7:
                int width = 1 + next(next(2) == 0 ? 12 : 100);
                compare("print(" + width + ")", () -> parser.print(width), () -> model.print(width));
                break;
            default:
                tame();
                compare("repair()", parser::repair, model::repair);
                compareTree();
        }
    }

    private void addRule() {
        int head = 9 + next(next(2) == 0 ? 1 : kinds);
        int length = next(most + 1);
        int symbols = 0;
        int hints = 0;
        for (int at = 0; at < length; at++) {
            symbols = symbols * 16 + (next(2) == 0 ? 9 + next(kinds) : 1 + next(signs));
            hints = hints * 4 + (at == 0 ? 0 : next(3));
        }
        boolean in = next(2) == 0;
        rule(head, symbols, hints, in);
    }

    private void rule(int head, int symbols, int hints, boolean in) {
        compare("rule(" + head + ", " + symbols + ", " + hints + ", " + in + ")",
                () -> parser.rule(head, symbols, hints, in), () -> model.rule(head, symbols, hints, in));
        compareGround();
    }

    private void addText() {
        int pieces = 1 + next(2);
        for (int piece = 0; piece < pieces; piece++) {
            int n = 1 + next(8);
            StringBuilder text = new StringBuilder();
            for (int at = 0; at < n; at++) {
                text.append(alphabet.charAt(next(alphabet.length())));
            }
            write(Checks.packed(text.toString()), n);
        }
    }

    private void write(long eight, int n) {
        compare("write(" + eight + ", " + n + ")", () -> parser.write(eight, n), () -> model.write(eight, n));
    }

    /** The model tries every way: long texts are left for rules that are short. */
    private void tame() {
        int had = model.length();
        compare("erase()", parser::erase, model::erase);
        int most = this.most > 3 ? 7 : this.most > 2 ? 10 : 20;
        int length = had == 0 ? next(3) : Math.min(had, next(4) == 0 ? most + 8 : most);
        StringBuilder text = new StringBuilder();
        for (int at = 0; at < length; at++) {
            text.append(alphabet.charAt(next(alphabet.length())));
        }
        for (int from = 0; from < length; from += 8) {
            String piece = text.substring(from, Math.min(length, from + 8));
            write(Checks.packed(piece), piece.length());
        }
    }

    private void wrongCall() {
        int some = next(5) - 2;
        switch (next(6)) {
            case 0:
                rule(9 + next(8) - 1, next(0x1200), next(70), next(2) == 0);
                break;
            case 1:
                write(((long) next(1 << 30) << 32) + next(1 << 30), next(11) - 1);
                break;
            case 2:
                compare("print", () -> parser.print(some * 50), () -> model.print(some * 50));
                break;
            case 3:
                compare("character", () -> parser.character(some * 9), () -> model.character(some * 9));
                break;
            case 4:
                compare("part", () -> parser.part(some, some * 4), () -> model.part(some, some * 4));
                break;
            default:
                compare("token", () -> parser.token(some, some), () -> model.token(some, some));
        }
        comparePage();
    }

    private void compareTree() {
        compare("tokens()", parser::tokens, model::tokens);
        compare("parts()", parser::parts, model::parts);
        compare("rest()", parser::rest, model::rest);
        for (int k = 0; k <= model.tokens() + 1; k++) {
            for (int what = 0; what < 3; what++) {
                int token = k;
                int asked = what;
                compare("token(" + k + ", " + what + ")", () -> parser.token(token, asked),
                        () -> model.token(token, asked));
            }
        }
        for (int k = 0; k <= model.parts(); k++) {
            for (int what = 0; what < 7; what++) {
                int part = k;
                int asked = what;
                compare("part(" + k + ", " + what + ")", () -> parser.part(part, asked), () -> model.part(part, asked));
            }
        }
        for (int width : new int[] {1, 1 + next(6), 1 + next(12), 1 + next(25), 100}) {
            compare("print(" + width + ")", () -> parser.print(width), () -> model.print(width));
            comparePage();
        }
        for (int what = -1; what < 4; what++) {
            int asked = what;
            compare("count(" + what + ")", () -> parser.count(asked), () -> model.count(asked));
        }
    }

    private void compareGround() {
        for (int kind = 8; kind <= 15; kind++) {
            int asked = kind;
            compare("grounded(" + kind + ")", () -> parser.grounded(asked) ? 1 : 0, () -> model.grounded(asked) ? 1 : 0);
        }
    }

    private void comparePage() {
        for (int i = 0; i <= model.printed(); i++) {
            int asked = i;
            compare("character(" + i + ")", () -> parser.character(asked), () -> model.character(asked));
        }
    }

    private void compare(String call, Checks.Call got, Checks.Call want) {
        if (calls == MOST_CALLS) {
            return;
        }
        calls++;
        Checks.same("run " + run + ": " + call, Checks.outcome(got), Checks.outcome(want));
    }
}
