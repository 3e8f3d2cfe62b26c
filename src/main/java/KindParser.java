/**
 * A front end that forgives: rules make a grammar, a text is cut into tokens, the tree that needs
 * the fewest repairs is found, and the text is laid out anew within a width.
 */
public final class KindParser {
    /** Nothing there. */
    public static final int NONE = -1;

    private static final int SIGNS = 8;
    private static final int FIRST_KIND = 9;
    private static final int KINDS = 6;
    private static final int SYMBOLS = SIGNS + KINDS;
    private static final int MAX_RULES = 20;
    private static final int MAX_SYMBOLS = 5;
    private static final int MAX_TEXT = 80;
    private static final int MAX_TOKENS = 16;
    private static final int MAX_PARTS = 150;
    private static final int MAX_WITHIN = 36;
    private static final int MAX_BYTES = 8;
    private static final int MAX_WIDTH = 100;
    private static final int SPACE = 32;
    private static final int LINE_END = 10;

    private final Grammar grammar;
    private final byte[] text;
    private int length;
    private final Cut cut;
    private final Chart chart;
    private final Tree tree;
    private final Page page;
    private int repaired;
    private int spent;

    public KindParser() {
        grammar = new Grammar();
        text = new byte[MAX_TEXT];
        length = 0;
        cut = new Cut();
        chart = new Chart(grammar, cut);
        tree = new Tree(grammar, chart);
        page = new Page(grammar, cut, tree);
        repaired = 0;
        spent = 0;
    }

    public int rule(int head, int symbols, int hints, boolean in)
            throws IllegalArgumentException, IllegalStateException {
        int digits = Grammar.symbolsIn(symbols);
        if (!isKind(head) || digits == NONE || !Grammar.hintsFit(hints, digits)) {
            throw new IllegalArgumentException("no such head, symbols or hints");
        }
        if (grammar.size >= MAX_RULES) {
            throw new IllegalStateException("there are 20 rules");
        }
        tree.drop();
        return grammar.add(head, symbols, hints, in);
    }

    public int write(long eight, int n) throws IllegalArgumentException, IllegalStateException {
        if (n < 1 || n > MAX_BYTES || !areCharacters(eight, n)) {
            throw new IllegalArgumentException("not 1 to 8 characters");
        }
        if (length + n > MAX_TEXT) {
            throw new IllegalStateException("more than 80 characters");
        }
        for (int at = 0; at < n; at++) {
            text[length + at] = (byte) byteOf(eight, at);
        }
        length += n;
        return length;
    }

    public int erase() {
        int had = length;
        length = 0;
        return had;
    }

    public int repair() throws UnsupportedOperationException, IllegalStateException {
        if (!grammar.hasGround(FIRST_KIND)) {
            throw new UnsupportedOperationException("kind 9 is not grounded");
        }
        tree.drop();
        if (!cut.read(text, length)) {
            throw new IllegalStateException("more than 16 tokens");
        }
        chart.fill();
        if (!tree.grow(cut.size)) {
            throw new IllegalStateException("too many parts, or a node too deep");
        }
        int cost = tree.cell(0, Tree.COST) + tree.skipped;
        repaired++;
        spent += cost;
        return cost;
    }

    public int tokens() {
        return tree.size > 0 ? cut.size : 0;
    }

    public int token(int k, int what) throws IndexOutOfBoundsException {
        if (tree.size == 0 || k < 0 || k > cut.size || what < 0 || what > 2) {
            throw new IndexOutOfBoundsException("no such tree, token or what");
        }
        if (what == 2) {
            return cut.commentsOf(k);
        }
        return what == 0 ? cut.signOf(k) : cut.lengthOf(k);
    }

    public int parts() {
        return tree.size;
    }

    public int part(int k, int what) throws IndexOutOfBoundsException {
        if (k < 0 || k >= tree.size || what < 0 || what >= Tree.CELLS) {
            throw new IndexOutOfBoundsException("no such part or what");
        }
        return tree.cell(k, what);
    }

    public int rest() throws IllegalStateException {
        if (tree.size == 0) {
            throw new IllegalStateException("there is no tree");
        }
        return tree.skipped;
    }

    public int print(int width) throws IllegalArgumentException, IllegalStateException {
        if (width < 1 || width > MAX_WIDTH) {
            throw new IllegalArgumentException("the width is not 1 to 100");
        }
        if (tree.size == 0) {
            throw new IllegalStateException("there is no tree");
        }
        page.layOut(width);
        return page.size;
    }

    public int character(int i) throws IndexOutOfBoundsException {
        if (i < 0 || i >= page.size) {
            throw new IndexOutOfBoundsException("no such character");
        }
        return page.at(i);
    }

    public boolean grounded(int kind) {
        return grammar.hasGround(kind);
    }

    public int count(int what) {
        switch (what) {
            case 0:
                return grammar.size;
            case 1:
                return repaired;
            case 2:
                return spent;
            default:
                return NONE;
        }
    }

    private static boolean isKind(int symbol) {
        return symbol >= FIRST_KIND && symbol <= SYMBOLS;
    }

    private static int byteOf(long eight, int at) {
        return (int) (eight >>> (8 * at)) & 255;
    }

    private static boolean areCharacters(long eight, int n) {
        for (int at = 0; at < n; at++) {
            int c = byteOf(eight, at);
            if (c != LINE_END && (c < SPACE || c > 126)) {
                return false;
            }
        }
        return true;
    }

    private static boolean isDigit(int c) {
        return c >= '0' && c <= '9';
    }

    /** The rules, each with its symbols and hints in the order in which they stand. */
    private static final class Grammar {
        private final int[] heads = new int[MAX_RULES];
        private final int[] lengths = new int[MAX_RULES];
        private final int[] symbols = new int[MAX_RULES * MAX_SYMBOLS];
        private final int[] hints = new int[MAX_RULES * MAX_SYMBOLS];
        private final boolean[] ins = new boolean[MAX_RULES];
        private final boolean[] ground = new boolean[KINDS];
        private int size = 0;

        /** How many digits by 16 there are, NONE when they are too many or one is no symbol. */
        static int symbolsIn(int packed) {
            if (packed < 0 || packed >= 1 << (4 * MAX_SYMBOLS)) {
                return NONE;
            }
            int digits = 0;
            int left = packed;
            for (int at = 0; at < MAX_SYMBOLS && left > 0; at++) {
                int digit = left & 15;
                if (digit < 1 || digit > SYMBOLS) {
                    return NONE;
                }
                digits++;
                left >>= 4;
            }
            return digits;
        }

        static boolean hintsFit(int packed, int digits) {
            if (packed < 0) {
                return false;
            }
            int left = packed;
            for (int at = 1; at < digits; at++) {
                if ((left & 3) == 3) {
                    return false;
                }
                left >>= 2;
            }
            return left == 0;
        }

        int add(int head, int packedSymbols, int packedHints, boolean in) {
            int rule = size;
            int digits = symbolsIn(packedSymbols);
            if (rule >= MAX_RULES || digits == NONE) {
                return NONE;
            }
            heads[rule] = head;
            lengths[rule] = digits;
            ins[rule] = in;
            for (int at = 0; at < digits; at++) {
                int behind = digits - 1 - at;
                symbols[rule * MAX_SYMBOLS + at] = (packedSymbols >> (4 * behind)) & 15;
                hints[rule * MAX_SYMBOLS + at] = (packedHints >> (2 * behind)) & 3;
            }
            size++;
            findGround();
            return rule;
        }

        boolean hasGround(int kind) {
            return isKind(kind) && ground[kind - FIRST_KIND];
        }

        private void findGround() {
            boolean more = true;
            for (int round = 0; round < KINDS && more; round++) {
                more = false;
                for (int rule = 0; rule < size; rule++) {
                    if (!hasGround(heads[rule]) && standsOnGround(rule)) {
                        ground[heads[rule] - FIRST_KIND] = true;
                        more = true;
                    }
                }
            }
        }

        private boolean standsOnGround(int rule) {
            for (int at = 0; at < lengths[rule]; at++) {
                int symbol = symbolOf(rule, at);
                if (isKind(symbol) && !hasGround(symbol)) {
                    return false;
                }
            }
            return true;
        }

        int symbolOf(int rule, int at) {
            return symbols[rule * MAX_SYMBOLS + at];
        }

        int hintOf(int rule, int at) {
            return hints[rule * MAX_SYMBOLS + at];
        }
    }

    /** The text that is repaired, cut into tokens; a copy, since the tree outlives an erased text. */
    private static final class Cut {
        private static final int MAX_COMMENTS = MAX_TEXT / 2;

        private final byte[] text = new byte[MAX_TEXT];
        private int length = 0;
        private final int[] starts = new int[MAX_TOKENS];
        private final int[] lengths = new int[MAX_TOKENS];
        private final int[] signs = new int[MAX_TOKENS];
        /** The first comment of each token and of the END; behind that, how many there are. */
        private final int[] firstComments = new int[MAX_TOKENS + 2];
        private final int[] commentStarts = new int[MAX_COMMENTS];
        private final int[] commentEnds = new int[MAX_COMMENTS];
        private int size = 0;
        private int comments = 0;

        /** Whether the tokens are no more than are allowed. */
        boolean read(byte[] source, int count) {
            length = Math.max(0, Math.min(count, Math.min(source.length, MAX_TEXT)));
            System.arraycopy(source, 0, text, 0, length);
            size = 0;
            comments = 0;
            firstComments[0] = 0;
            int at = 0;
            for (int step = 0; step < MAX_TEXT && at < length; step++) {
                at = take(at);
                if (at == NONE) {
                    return false;
                }
            }
            firstComments[size + 1] = comments;
            return true;
        }

        /** Takes what begins at a place: the place behind it, NONE for a token too many. */
        private int take(int at) {
            int c = text[at];
            if (c == SPACE || c == LINE_END) {
                return at + 1;
            }
            int close = c == '{' ? closing(at) : NONE;
            if (close != NONE) {
                return takeComment(at, close + 1);
            }
            if (size >= MAX_TOKENS) {
                return NONE;
            }
            boolean isLetter = c >= 'a' && c < 'a' + SIGNS;
            int end = isLetter ? behindDigits(at + 1) : at + 1;
            starts[size] = at;
            lengths[size] = end - at;
            signs[size] = isLetter ? c - 'a' + 1 : 0;
            size++;
            firstComments[size] = comments;
            return end;
        }

        private int takeComment(int at, int end) {
            if (comments < MAX_COMMENTS) {
                commentStarts[comments] = at;
                commentEnds[comments] = end;
                comments++;
            }
            return end;
        }

        private int closing(int open) {
            for (int at = open + 1; at < length; at++) {
                if (text[at] == '}') {
                    return at;
                }
            }
            return NONE;
        }

        private int behindDigits(int from) {
            int at = from;
            while (at < length && isDigit(text[at])) {
                at++;
            }
            return at;
        }

        int signOf(int token) {
            return token >= 0 && token < size ? signs[token] : 0;
        }

        int lengthOf(int token) {
            return token >= 0 && token < size ? lengths[token] : 0;
        }

        int commentsOf(int token) {
            return token >= 0 && token <= size ? firstComments[token + 1] - firstComments[token] : 0;
        }

        boolean beginsWithDigit(int token) {
            return token >= 0 && token < size && commentsOf(token) == 0 && isDigit(text[starts[token]]);
        }

        /** How wide a token is with its comments and the spaces between. */
        int widthOf(int token) {
            int width = lengthOf(token);
            int last = firstComments[token] + commentsOf(token);
            for (int comment = firstComments[token]; comment < last; comment++) {
                width += commentEnds[comment] - commentStarts[comment] + 1;
            }
            return width;
        }
    }

    /**
     * The least price of every symbol for every run of tokens. A price is the cost in the high half
     * and the count in the low half of a long, so that one comparison and one sum serve both.
     */
    private static final class Chart {
        private static final int EDGES = MAX_TOKENS + 1;
        private static final int SPANS = EDGES * EDGES;
        private static final int ROWS = MAX_SYMBOLS + 1;
        private static final int COST_SHIFT = 32;
        /** Above every price, and low enough that the sum of two does not overflow. */
        private static final long FAR = 1L << 60;

        private final Grammar grammar;
        private final Cut cut;
        private final long[] prices = new long[SYMBOLS * SPANS];
        private final byte[] choices = new byte[KINDS * SPANS];
        /** For each rule the prices of its first 0, 1, .. symbols, from the first token at hand. */
        private final long[] begun = new long[MAX_RULES * ROWS * EDGES];
        /** The same for the one rule that is being split. */
        private final long[] traced = new long[ROWS * EDGES];

        Chart(Grammar grammar, Cut cut) {
            this.grammar = grammar;
            this.cut = cut;
        }

        private static int spot(int symbol, int first, int end) {
            return ((symbol - 1) * EDGES + first) * EDGES + end;
        }

        private static int choiceSpot(int kind, int first, int end) {
            return ((kind - FIRST_KIND) * EDGES + first) * EDGES + end;
        }

        private static int begunRow(int rule, int symbolsDone) {
            return (rule * ROWS + symbolsDone) * EDGES;
        }

        void fill() {
            priceLeaves();
            for (int first = cut.size; first >= 0; first--) {
                for (int end = first; end <= cut.size; end++) {
                    forget(first, end);
                    joinInside(first, end);
                    settle(first, end);
                    choose(first, end);
                }
            }
        }

        private void priceLeaves() {
            for (int sign = 1; sign <= SIGNS; sign++) {
                for (int first = 0; first <= cut.size; first++) {
                    prices[spot(sign, first, first)] = 1L << COST_SHIFT;
                    for (int end = first + 1; end <= cut.size; end++) {
                        long cost = end - first - 1 + (cut.signOf(end - 1) == sign ? 0 : 1);
                        prices[spot(sign, first, end)] = cost << COST_SHIFT;
                    }
                }
            }
        }

        /** What an earlier text left here. */
        private void forget(int first, int end) {
            for (int kind = FIRST_KIND; kind <= SYMBOLS; kind++) {
                prices[spot(kind, first, end)] = FAR;
                choices[choiceSpot(kind, first, end)] = NONE;
            }
        }

        /** Prices what needs no symbol for the whole run of tokens, so never waits for this run. */
        private void joinInside(int first, int end) {
            for (int rule = 0; rule < grammar.size; rule++) {
                int row = begunRow(rule, 0);
                begun[row + end] = first == end ? 0 : FAR;
                for (int at = 0; at < grammar.lengths[rule]; at++) {
                    begun[row + EDGES + end] = leastInside(row, grammar.symbolOf(rule, at), first, end);
                    row += EDGES;
                }
            }
        }

        private long leastInside(int row, int symbol, int first, int end) {
            long least = FAR;
            int at = spot(symbol, first, end);
            for (int middle = first + 1; middle < end; middle++) {
                at += EDGES;
                least = Math.min(least, begun[row + middle] + prices[at]);
            }
            return least;
        }

        /**
         * Kinds may wait for one another at the same run of tokens. A best node never holds its own
         * kind again there, so as many rounds as there are kinds find all, and one more sees it.
         */
        private void settle(int first, int end) {
            boolean better = true;
            for (int round = 0; round <= KINDS && better; round++) {
                better = false;
                for (int rule = 0; rule < grammar.size; rule++) {
                    int at = spot(grammar.heads[rule], first, end);
                    long price = extend(rule, first, end) + 1;
                    if (price < prices[at]) {
                        prices[at] = price;
                        better = true;
                    }
                }
            }
        }

        /** Lets one symbol have all the tokens, or the last one none: the price of the rule. */
        private long extend(int rule, int first, int end) {
            int row = begunRow(rule, 0);
            for (int at = 0; at < grammar.lengths[rule]; at++) {
                int symbol = grammar.symbolOf(rule, at);
                long lastEmpty = begun[row + end] + prices[spot(symbol, end, end)];
                long lastAll = begun[row + first] + prices[spot(symbol, first, end)];
                row += EDGES;
                begun[row + end] = Math.min(begun[row + end], Math.min(lastEmpty, lastAll));
            }
            return begun[row + end];
        }

        /** Downwards, so that the rule of the least number stays. */
        private void choose(int first, int end) {
            for (int rule = grammar.size - 1; rule >= 0; rule--) {
                int head = grammar.heads[rule];
                long price = begun[begunRow(rule, grammar.lengths[rule]) + end] + 1;
                if (price < FAR && price == prices[spot(head, first, end)]) {
                    choices[choiceSpot(head, first, end)] = (byte) rule;
                }
            }
        }

        int ruleFor(int kind, int first, int end) {
            return choices[choiceSpot(kind, first, end)];
        }

        int costOf(int symbol, int first, int end) {
            return (int) (prices[spot(symbol, first, end)] >> COST_SHIFT);
        }

        /** Where the best tree ends: the tokens from there on are the END's. */
        int treeEnd() {
            long least = FAR;
            int best = 0;
            for (int end = 0; end <= cut.size; end++) {
                long total = prices[spot(FIRST_KIND, 0, end)] + ((long) (cut.size - end) << COST_SHIFT);
                if (total <= least) {
                    least = total;
                    best = end;
                }
            }
            return best;
        }

        /** Finds where each part of a rule's best node begins. */
        void split(int rule, int first, int end, int[] begins) {
            trace(rule, first, end);
            int partEnd = end;
            for (int at = grammar.lengths[rule] - 1; at >= 0; at--) {
                int symbol = grammar.symbolOf(rule, at);
                int row = at * EDGES;
                long price = traced[row + EDGES + partEnd];
                int begin = partEnd;
                while (begin > first && traced[row + begin] + prices[spot(symbol, begin, partEnd)] != price) {
                    begin--;
                }
                begins[at] = begin;
                partEnd = begin;
            }
        }

        private void trace(int rule, int first, int end) {
            for (int edge = first; edge <= end; edge++) {
                traced[edge] = edge == first ? 0 : FAR;
            }
            for (int at = 0; at < grammar.lengths[rule]; at++) {
                int symbol = grammar.symbolOf(rule, at);
                int row = at * EDGES;
                for (int partEnd = first; partEnd <= end; partEnd++) {
                    long least = FAR;
                    for (int begin = first; begin <= partEnd; begin++) {
                        least = Math.min(least, traced[row + begin] + prices[spot(symbol, begin, partEnd)]);
                    }
                    traced[row + EDGES + partEnd] = least;
                }
            }
        }
    }

    /** The parts of the tree in their order; there is no tree when it has none. */
    private static final class Tree {
        private static final int RULE = 0;
        private static final int SYMBOL = 1;
        private static final int PARENT = 2;
        private static final int FIRST = 3;
        private static final int TOKENS = 4;
        private static final int COST = 5;
        private static final int STATE = 6;
        private static final int CELLS = 7;

        private final Grammar grammar;
        private final Chart chart;
        private final int[] cells = new int[MAX_PARTS * CELLS];
        private final int[] hints = new int[MAX_PARTS];
        private final int[] within = new int[MAX_PARTS];
        private final int[] begins = new int[MAX_SYMBOLS];
        /** What is still to come, the next one last: symbol, parent, first token, end, hint. */
        private final int[] waitSymbols = new int[MAX_PARTS];
        private final int[] waitParents = new int[MAX_PARTS];
        private final int[] waitFirsts = new int[MAX_PARTS];
        private final int[] waitEnds = new int[MAX_PARTS];
        private final int[] waitHints = new int[MAX_PARTS];
        private int waiting = 0;
        private int size = 0;
        private int skipped = 0;

        Tree(Grammar grammar, Chart chart) {
            this.grammar = grammar;
            this.chart = chart;
        }

        void drop() {
            size = 0;
            skipped = 0;
        }

        int cell(int part, int what) {
            return cells[part * CELLS + what];
        }

        boolean isLeaf(int part) {
            return cell(part, RULE) == NONE;
        }

        /** Whether the tree keeps within its limits; if not, there is none. */
        boolean grow(int tokens) {
            int end = chart.treeEnd();
            drop();
            waiting = 0;
            boolean fits = await(FIRST_KIND, NONE, 0, end, 0);
            for (int step = 0; step < MAX_PARTS && fits && waiting > 0; step++) {
                fits = placeNext();
            }
            if (!fits || waiting > 0) {
                drop();
                return false;
            }
            skipped = tokens - end;
            return true;
        }

        /** What waits becomes a part, so together they may not be more than the parts allowed. */
        private boolean await(int symbol, int parent, int first, int end, int hint) {
            if (size + waiting >= MAX_PARTS) {
                return false;
            }
            waitSymbols[waiting] = symbol;
            waitParents[waiting] = parent;
            waitFirsts[waiting] = first;
            waitEnds[waiting] = end;
            waitHints[waiting] = hint;
            waiting++;
            return true;
        }

        private boolean placeNext() {
            if (waiting <= 0 || size >= MAX_PARTS) {
                return false;
            }
            waiting--;
            int part = size;
            int symbol = waitSymbols[waiting];
            int parent = waitParents[waiting];
            int first = waitFirsts[waiting];
            int end = waitEnds[waiting];
            size++;
            int row = part * CELLS;
            cells[row + SYMBOL] = symbol;
            cells[row + PARENT] = parent;
            cells[row + FIRST] = first;
            cells[row + TOKENS] = end - first;
            cells[row + COST] = chart.costOf(symbol, first, end);
            hints[part] = waitHints[waiting];
            within[part] = parent == NONE ? 0 : within[parent] + 1;
            if (isKind(symbol)) {
                return placeNode(part, symbol, first, end);
            }
            cells[row + RULE] = NONE;
            cells[row + STATE] = leafState(part);
            return true;
        }

        /** A leaf's cost is its skipped tokens and 1 if it is replaced. */
        private int leafState(int part) {
            int tokens = cell(part, TOKENS);
            if (tokens == 0) {
                return 2;
            }
            return cell(part, COST) == tokens ? 1 : 0;
        }

        private boolean placeNode(int part, int kind, int first, int end) {
            int rule = chart.ruleFor(kind, first, end);
            if (rule == NONE || within[part] > MAX_WITHIN) {
                return false;
            }
            int symbols = grammar.lengths[rule];
            cells[part * CELLS + RULE] = rule;
            cells[part * CELLS + STATE] = symbols;
            chart.split(rule, first, end, begins);
            boolean fits = true;
            int partEnd = end;
            for (int at = symbols - 1; at >= 0 && fits; at--) {
                int hint = grammar.hintOf(rule, at);
                fits = await(grammar.symbolOf(rule, at), part, begins[at], partEnd, hint);
                partEnd = begins[at];
            }
            return fits;
        }
    }

    /** What was printed last. It stays when the tree goes. */
    private static final class Page {
        /** Text, spaces, and 15 line ends with 74 spaces each stay below this. */
        private static final int MAX_PRINT = 1300;
        private static final int STEP_IN = 2;

        private final Grammar grammar;
        private final Cut cut;
        private final Tree tree;
        private final byte[] sheet = new byte[MAX_PRINT];
        private final int[] flats = new int[MAX_PARTS];
        private final boolean[] broken = new boolean[MAX_PARTS];
        private final int[] indents = new int[MAX_PARTS];
        private int size = 0;
        private int column = 0;

        Page(Grammar grammar, Cut cut, Tree tree) {
            this.grammar = grammar;
            this.cut = cut;
            this.tree = tree;
        }

        int at(int i) {
            return i >= 0 && i < size ? sheet[i] : NONE;
        }

        void layOut(int width) {
            measure();
            size = 0;
            column = 0;
            for (int part = 0; part < tree.size; part++) {
                if (tree.cell(part, Tree.TOKENS) > 0) {
                    layPart(part, width);
                }
            }
            layEnd();
        }

        private void measure() {
            for (int part = 0; part < tree.size; part++) {
                flats[part] = tree.isLeaf(part) ? leafWidth(part) : 0;
            }
            // backwards, since a part's own parts come behind it
            for (int part = tree.size - 1; part > 0; part--) {
                int parent = tree.cell(part, Tree.PARENT);
                if (parent != NONE) {
                    flats[parent] += flats[part] + (hasGap(part) ? flatGap(part) : 0);
                }
            }
        }

        private int leafWidth(int part) {
            int first = tree.cell(part, Tree.FIRST);
            int tokens = tree.cell(part, Tree.TOKENS);
            int width = Math.max(0, tokens - 1);
            for (int token = first; token < first + tokens; token++) {
                width += cut.widthOf(token);
            }
            return width;
        }

        /** A part's print is empty when it has no tokens; the first of the others begins its node. */
        private boolean hasGap(int part) {
            int parent = tree.cell(part, Tree.PARENT);
            return parent != NONE && tree.cell(part, Tree.TOKENS) > 0
                    && tree.cell(part, Tree.FIRST) != tree.cell(parent, Tree.FIRST);
        }

        /** A close digit would be read as one of the token before it. */
        private int flatGap(int part) {
            boolean close = tree.hints[part] == 0 && !cut.beginsWithDigit(tree.cell(part, Tree.FIRST));
            return close ? 0 : 1;
        }

        private void layPart(int part, int width) {
            int parent = tree.cell(part, Tree.PARENT);
            if (hasGap(part)) {
                layGap(part, parent);
            }
            int first = tree.cell(part, Tree.FIRST);
            if (tree.isLeaf(part)) {
                layTokens(first, first + tree.cell(part, Tree.TOKENS));
                return;
            }
            broken[part] = flats[part] > width - column;
            indents[part] = parent == NONE ? 0 : indents[parent];
            if (broken[part] && grammar.ins[tree.cell(part, Tree.RULE)]) {
                indents[part] += STEP_IN;
            }
        }

        private void layGap(int part, int parent) {
            if (tree.hints[part] == 2 && broken[parent]) {
                put(LINE_END);
                column = 0;
                for (int i = 0; i < indents[parent]; i++) {
                    put(SPACE);
                }
            } else if (flatGap(part) > 0) {
                put(SPACE);
            }
        }

        private void layTokens(int first, int end) {
            for (int token = first; token < end; token++) {
                if (token > first) {
                    put(SPACE);
                }
                layComments(token);
                if (cut.commentsOf(token) > 0) {
                    put(SPACE);
                }
                layText(cut.starts[token], cut.starts[token] + cut.lengths[token]);
            }
        }

        private void layComments(int token) {
            int first = cut.firstComments[token];
            for (int comment = first; comment < first + cut.commentsOf(token); comment++) {
                if (comment > first) {
                    put(SPACE);
                }
                layText(cut.commentStarts[comment], cut.commentEnds[comment]);
            }
        }

        private void layEnd() {
            boolean hasComments = cut.commentsOf(cut.size) > 0;
            if (tree.skipped == 0 && !hasComments) {
                return;
            }
            if (size > 0) {
                put(LINE_END);
            }
            layTokens(cut.size - tree.skipped, cut.size);
            if (tree.skipped > 0 && hasComments) {
                put(SPACE);
            }
            layComments(cut.size);
        }

        private void layText(int from, int to) {
            for (int at = from; at < to; at++) {
                put(cut.text[at]);
            }
        }

        private void put(int c) {
            if (size < MAX_PRINT) {
                sheet[size] = (byte) c;
                size++;
                column++;
            }
        }
    }
}
