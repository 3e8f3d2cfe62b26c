/** "An object is used for at most 512 calls after it has been made": the last of them is as good as the first. */
final class LongRunTest {
    private static final int CALLS = 512;

    private interface Use {
        long of(KindParser p);
    }

    public static void main(String[] args) {
        Checks.sentence("An object is used for at most 512 calls after it has been made");
        onlyRepairs();
        onlyOf("rule", CALLS - 20, p -> p.rule(14, 0, 0, false), "throws.IllegalStateException");
        onlyOf("erase", 10, KindParser::erase, "0");
        onlyOf("character", 10, p -> p.character(2), "throws.IndexOutOfBoundsException");
        lastCalls();
        manyCosts();
        manyPrints();
        Checks.end();
    }

    /** As many rules, characters and tokens as there may be: 20 + 10 calls; then the rest of them repair. */
    private static void onlyRepairs() {
        KindParser p = new KindParser();
        for (int rule = 0; rule < 18; rule++) {
            p.rule(9 + rule % 6, 0x9CDE1, 0xAA, true);
        }
        p.rule(9, 0x19, 2, true);
        p.rule(9, 0, 0, false);
        Checks.due("the text", Checks.type(p, "a1{x}".repeat(16)), 80);
        for (int call = 30; call < CALLS; call++) {
            Checks.due("call " + (call + 1) + ", repair()", p.repair(), 0);
        }
    }

    private static void onlyOf(String name, int last, Use use, String want) {
        KindParser p = new KindParser();
        for (int call = 0; call < CALLS; call++) {
            String got = Checks.outcome(() -> use.of(p));
            if (call >= CALLS - last) {
                Checks.same("call " + (call + 1) + ", " + name, got, want);
            }
        }
    }

    /** A parser of which as many calls are made that one more is the last. */
    private static KindParser beforeTheLast() {
        KindParser p = new KindParser();
        p.rule(9, 0x12, 2, true);
        p.write(Checks.packed("a b1?{x}"), 8);
        for (int call = 2; call < CALLS - 2; call++) {
            p.repair();
        }
        p.print(3);
        return p;
    }

    private static void lastCall(String name, Use use, long want) {
        KindParser p = beforeTheLast();
        Checks.same("call 512, " + name, Checks.outcome(() -> use.of(p)), Long.toString(want));
    }

    private static void lastCalls() {
        lastCall("rule", p -> p.rule(10, 1, 0, false), 1);
        lastCall("write", p -> p.write('a', 1), 9);
        lastCall("erase", KindParser::erase, 8);
        lastCall("repair", KindParser::repair, 1);
        lastCall("tokens", KindParser::tokens, 3);
        lastCall("token", p -> p.token(3, 2), 1);
        lastCall("parts", KindParser::parts, 3);
        lastCall("part", p -> p.part(2, 4), 1);
        lastCall("rest", KindParser::rest, 1);
        lastCall("print", p -> p.print(4), 10);
        lastCall("character", p -> p.character(1), 10);
        lastCall("grounded", p -> p.grounded(9) ? 1 : 0, 1);
        lastCall("count(0)", p -> p.count(0), 1);
        lastCall("count(1)", p -> p.count(1), CALLS - 4);
        lastCall("count(2)", p -> p.count(2), CALLS - 4);
        KindParser p = beforeTheLast();
        Checks.refused("call 512, part", Checks.INDEX, () -> p.part(3, 0));
    }

    /** The dearest tree that there may be, as often as can be. */
    private static void manyCosts() {
        KindParser p = Checks.grammar(14, 0x11111, 13, 0xEEEEE, 11, 0xEEEE, 9, 0xDDDDB);
        p.write(Checks.packed("????????"), 8);
        p.write(Checks.packed("????????"), 8);
        int cost = p.repair();
        for (int call = 7; call < CALLS - 1; call++) {
            p.repair();
        }
        Checks.due("one of them", cost, 120);
        Checks.due("call 512, count(2)", p.count(2), (CALLS - 7L) * cost);
    }

    private static void manyPrints() {
        KindParser p = new KindParser();
        p.rule(9, 0x12345, 0xAA, true);
        p.write(Checks.packed("a1b2c3d4"), 8);
        p.write(Checks.packed("e5{x}"), 5);
        p.repair();
        for (int call = 4; call < CALLS; call++) {
            int width = 1 + call % 100;
            Checks.due("call " + (call + 1) + ", print(" + width + ")", p.print(width), width < 14 ? 26 : 18);
        }
    }
}
