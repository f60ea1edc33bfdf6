/**
 * Molecules that are typed in, kept once each, and rewritten by rules in rounds.
 *
 * <p>A species is held as nothing but its key, packed into a long (see {@link Word}), and a reaction
 * as one int (see {@link ReactionList}). All rows are made in the constructor and used again, so that
 * no call makes an object.
 */
public final class SpeciesRounds {
    private static final int LEAST_CAP = 2;
    private static final int MOST_CAP = 5;
    private static final int MOST_SPECIES = 12;
    private static final int MOST_REACTIONS = 40;
    private static final int MOST_RULES = 3;
    private static final int MOST_PLACES = 3;
    private static final int MOST_ORDER = 3;
    private static final int MOST_CODE = 3;
    private static final int LINE_LENGTH = 24;
    private static final int WRITTEN_PLACES = 5;
    private static final int REACTANT_PLACES = 2;

    private static final int NONE = -1;
    private static final int REFUSED = -1;
    private static final int MARK_LEFT_OPEN = -100;
    private static final int BONDS_CLASH = -101;
    private static final int TOO_MANY_ATOMS = -102;
    private static final int TOO_MANY_BONDS = -103;
    private static final int TABLE_FULL = -104;
    private static final int NO_REACTION = -2;

    private final int cap;
    private final Line line = new Line();
    private final Reader reader = new Reader();
    private final KeySearch keySearch = new KeySearch();
    private final Table table = new Table();
    private final Rule[] rules = new Rule[MOST_RULES];
    private int ruleCount;
    private final Mixture mixture = new Mixture();
    private final Finder finder = new Finder();
    private final Products products = new Products();
    private final ReactionList list = new ReactionList();
    private final ReactionList draft = new ReactionList();
    private final int[] written = new int[WRITTEN_PLACES];

    public SpeciesRounds(int cap) {
        this.cap = Math.max(LEAST_CAP, Math.min(MOST_CAP, cap));
        for (int r = 0; r < MOST_RULES; r++) {
            rules[r] = new Rule();
        }
    }

    public boolean key(char c) {
        return line.add(c);
    }

    public boolean back() {
        return line.dropLast();
    }

    public int enter() {
        int fault = reader.read(line);
        line.clear();
        if (fault != NONE) {
            return -1 - fault;
        }
        if (reader.hasOpenMark()) {
            return MARK_LEFT_OPEN;
        }
        if (reader.clash) {
            return BONDS_CLASH;
        }
        return putDrawn(reader.drawn);
    }

    public int species() {
        return table.count;
    }

    public int size(int s) {
        return hasSpecies(s) ? Word.atomsOf(table.words[s]) : NONE;
    }

    public int atom(int s, int i) {
        return hasAtom(s, i) ? Word.codeOf(table.words[s], i) : NONE;
    }

    public int bond(int s, int i, int j) {
        return hasAtom(s, i) && hasAtom(s, j) ? Word.orderOf(table.words[s], i, j) : NONE;
    }

    public int rule(int a, int b, int c) {
        if (ruleCount >= MOST_RULES || !isCode(a) || !isCode(b) || (c != NONE && !isCode(c))) {
            return REFUSED;
        }
        rules[ruleCount].begin(a, b, c);
        ruleCount++;
        return ruleCount - 1;
    }

    public boolean change(int rule, int i, int j, int before, int after) {
        if (!hasRule(rule) || i < 0 || i >= j || j >= rules[rule].places) {
            return false;
        }
        if (!isOrder(before) || !isOrder(after)) {
            return false;
        }
        rules[rule].setOrders(i, j, before, after);
        return true;
    }

    public int matches(int rule, int s, int t) {
        if (!hasRule(rule) || !hasSpecies(s) || (t != NONE && !hasSpecies(t))) {
            return REFUSED;
        }
        pourMixture(s, t);
        return finder.find(rules[rule], mixture);
    }

    public int round() {
        int before = table.count;
        draft.copyFrom(list);
        for (int s = 0; s < before; s++) {
            for (int t = NONE; t <= s; t++) {
                if (!takeMixture(s, t)) {
                    table.keepFirst(before);
                    return REFUSED;
                }
            }
        }
        table.sortFrom(before);
        listDraft();
        return table.count - before;
    }

    public int reactions() {
        return list.count;
    }

    public int reaction(int i, int k) {
        if (i < 0 || i >= list.count || k < 0 || k >= WRITTEN_PLACES) {
            return NO_REACTION;
        }
        return list.numberAt(i, k);
    }

    private boolean hasSpecies(int s) {
        return s >= 0 && s < table.count;
    }

    private boolean hasAtom(int s, int i) {
        return hasSpecies(s) && i >= 0 && i < Word.atomsOf(table.words[s]);
    }

    private boolean hasRule(int r) {
        return r >= 0 && r < ruleCount;
    }

    private static boolean isCode(int code) {
        return code >= 0 && code <= MOST_CODE;
    }

    private static boolean isOrder(int order) {
        return order >= 0 && order <= MOST_ORDER;
    }

    private int putDrawn(Graph drawn) {
        if (drawn.atoms > cap) {
            return TOO_MANY_ATOMS;
        }
        for (int a = 0; a < drawn.atoms; a++) {
            if (drawn.isOverloaded(a)) {
                return TOO_MANY_BONDS;
            }
        }
        int number = table.put(keySearch.leastWord(drawn, drawn.everyAtom, drawn.atoms));
        return number == NONE ? TABLE_FULL : number;
    }

    private void pourMixture(int s, int t) {
        mixture.clear();
        mixture.addMolecule(table.words[s]);
        if (t != NONE) {
            mixture.addMolecule(table.words[t]);
        }
    }

    /** False when the table or the list can't hold what comes of it. */
    private boolean takeMixture(int s, int t) {
        pourMixture(s, t);
        for (int r = 0; r < ruleCount; r++) {
            // An idle rule gives back its own mixture: neither a product nor a reaction is new.
            int found = rules[r].isIdle() ? 0 : finder.find(rules[r], mixture);
            for (int m = 0; m < found; m++) {
                if (!takeMatch(rules[r], m, s, t)) {
                    return false;
                }
            }
        }
        return true;
    }

    private boolean takeMatch(Rule rule, int match, int s, int t) {
        finder.recall(match);
        mixture.rewrite(finder.chosen, rule.places, rule.after);
        boolean yields = products.split(mixture.graph, finder.chosen, rule.places, cap, keySearch);
        mixture.rewrite(finder.chosen, rule.places, rule.before);
        return !yields || putReaction(s, t);
    }

    /** Numbers are those of the order in which products are met; the end of the round sets them right. */
    private boolean putReaction(int s, int t) {
        written[0] = Math.min(s, t);
        written[1] = Math.max(s, t);
        for (int k = 0; k < MOST_PLACES; k++) {
            int number = NONE;
            if (k < products.count) {
                number = table.put(products.words[k]);
                if (number == NONE) {
                    return false;
                }
            }
            written[REACTANT_PLACES + k] = number;
        }
        sortSpan(written, REACTANT_PLACES, WRITTEN_PLACES);
        boolean same = written[2] == NONE && written[3] == written[0] && written[4] == written[1];
        return same || draft.put(ReactionList.pack(written));
    }

    /** What stands in the list already keeps its numbers, so that it is found there again. */
    private void listDraft() {
        for (int i = 0; i < draft.count; i++) {
            for (int k = 0; k < WRITTEN_PLACES; k++) {
                int number = draft.numberAt(i, k);
                written[k] = number == NONE ? NONE : table.renumbered[number];
            }
            sortSpan(written, REACTANT_PLACES, WRITTEN_PLACES);
            list.put(ReactionList.pack(written));
        }
    }

    private static void sortSpan(int[] row, int from, int to) {
        for (int i = from + 1; i < to; i++) {
            int moved = row[i];
            int at = i;
            for (; at > from && row[at - 1] > moved; at--) {
                row[at] = row[at - 1];
            }
            row[at] = moved;
        }
    }

    /** What is typed. */
    private static final class Line {
        private static final char FIRST_CHARACTER = 32;
        private static final char LAST_CHARACTER = 126;

        private final char[] typed = new char[LINE_LENGTH];
        private int length;

        boolean add(char c) {
            if (c < FIRST_CHARACTER || c > LAST_CHARACTER || length >= LINE_LENGTH) {
                return false;
            }
            typed[length] = c;
            length++;
            return true;
        }

        boolean dropLast() {
            if (length == 0) {
                return false;
            }
            length--;
            return true;
        }

        void clear() {
            length = 0;
        }
    }

    /** Atoms and the orders between them, of one molecule or of several side by side. */
    private static final class Graph {
        private final int[] codes;
        private final int[][] orders;
        private final int[] everyAtom;
        private int atoms;

        Graph(int most) {
            codes = new int[most];
            orders = new int[most][most];
            everyAtom = new int[most];
            for (int a = 0; a < most; a++) {
                everyAtom[a] = a;
            }
        }

        void clear() {
            atoms = 0;
        }

        /** Both users have room for all the atoms that their limits let come; NONE is never met. */
        int addAtom(int code) {
            if (atoms >= codes.length) {
                return NONE;
            }
            int added = atoms;
            atoms++;
            codes[added] = code;
            for (int a = 0; a < added; a++) {
                setOrder(a, added, 0);
            }
            return added;
        }

        void setOrder(int a, int b, int order) {
            orders[a][b] = order;
            orders[b][a] = order;
        }

        boolean isOverloaded(int a) {
            int sum = 0;
            for (int b = 0; b < atoms; b++) {
                sum += orders[a][b];
            }
            // H, O, N and C stand in the order of what they can have.
            return sum > codes[a] + 1;
        }
    }

    /** Reads the line as a text and draws its atoms and bonds. */
    private static final class Reader {
        private static final String LETTERS = "HONC";
        private static final String LINKS = "-=#";
        private static final String DIGITS = "12";
        private static final int MOST_MARKS = 2;

        // Where the reading stands, by what may come next.
        private static final int AT_TEXT = 0;
        private static final int AT_BRANCH = 1;
        private static final int AT_BRANCH_CHAIN = 2;
        private static final int AT_REST = 3;
        private static final int AT_REST_LINKED = 4;

        private final Graph drawn = new Graph(LINE_LENGTH);
        private final int[] branchAtoms = new int[LINE_LENGTH];
        private final int[] markAtoms = new int[MOST_MARKS];
        private final int[] markOrders = new int[MOST_MARKS];
        private int branches;
        private int standing;
        private int current;
        private int linkOrder;
        private boolean clash;

        /** NONE for a text, otherwise the place of the fault. */
        int read(Line line) {
            begin();
            for (int p = 0; p < line.length; p++) {
                if (!take(line.typed[p])) {
                    return p;
                }
            }
            return standing == AT_REST && branches == 0 ? NONE : line.length;
        }

        boolean hasOpenMark() {
            for (int d = 0; d < MOST_MARKS; d++) {
                if (markAtoms[d] != NONE) {
                    return true;
                }
            }
            return false;
        }

        private void begin() {
            drawn.clear();
            for (int d = 0; d < MOST_MARKS; d++) {
                markAtoms[d] = NONE;
            }
            branches = 0;
            current = NONE;
            clash = false;
            stand(AT_TEXT);
        }

        private void stand(int where) {
            standing = where;
            linkOrder = 1;
        }

        private boolean take(char c) {
            int code = LETTERS.indexOf(c);
            if (code >= 0) {
                return takeLetter(code);
            }
            int link = LINKS.indexOf(c);
            if (link >= 0) {
                return takeLink(link + 1);
            }
            int digit = DIGITS.indexOf(c);
            if (digit >= 0) {
                return takeMark(digit);
            }
            if (c == '(') {
                return openBranch();
            }
            return c == ')' && closeBranch();
        }

        private boolean takeLetter(int code) {
            int added = drawn.addAtom(code);
            if (added == NONE) {
                return false;
            }
            if (current != NONE) {
                join(current, added, linkOrder);
            }
            current = added;
            stand(AT_REST);
            return true;
        }

        private boolean takeLink(int order) {
            if (standing == AT_REST) {
                stand(AT_REST_LINKED);
            } else if (standing == AT_BRANCH) {
                stand(AT_BRANCH_CHAIN);
            } else {
                return false;
            }
            linkOrder = order;
            return true;
        }

        private boolean takeMark(int digit) {
            if (standing != AT_REST && standing != AT_REST_LINKED) {
                return false;
            }
            if (markAtoms[digit] == NONE) {
                markAtoms[digit] = current;
                markOrders[digit] = linkOrder;
            } else {
                clash = clash || markOrders[digit] != linkOrder;
                join(markAtoms[digit], current, linkOrder);
                markAtoms[digit] = NONE;
            }
            stand(AT_REST);
            return true;
        }

        private boolean openBranch() {
            if (standing != AT_REST || branches >= LINE_LENGTH) {
                return false;
            }
            branchAtoms[branches] = current;
            branches++;
            stand(AT_BRANCH);
            return true;
        }

        private boolean closeBranch() {
            if (standing != AT_REST || branches == 0) {
                return false;
            }
            branches--;
            current = branchAtoms[branches];
            return true;
        }

        private void join(int a, int b, int order) {
            if (a == b || drawn.orders[a][b] != 0) {
                clash = true;
            } else {
                drawn.setOrder(a, b, order);
            }
        }
    }

    /**
     * A word in a long: the number of atoms, their codes, the orders, the first number highest, so
     * that words compare as their longs do. Words of one length have all places at the same bits.
     */
    private static final class Word {
        private static final int BITS = 2;
        private static final int MASK = 3;
        private static final int CODES_BITS = BITS * MOST_CAP;
        private static final int ORDERS_BITS = BITS * (MOST_CAP * (MOST_CAP - 1) / 2);

        private static int pairsUpTo(int atoms) {
            return atoms * (atoms - 1) / 2;
        }

        static long pack(int atoms, int codes, int orders) {
            return ((((long) atoms) << CODES_BITS | codes) << ORDERS_BITS) | orders;
        }

        static int atomsOf(long word) {
            return (int) (word >> (CODES_BITS + ORDERS_BITS));
        }

        static int codeOf(long word, int i) {
            int behind = atomsOf(word) - 1 - i;
            return (int) (word >> (ORDERS_BITS + BITS * behind)) & MASK;
        }

        static int orderOf(long word, int i, int j) {
            if (i == j) {
                return 0;
            }
            int pair = pairsUpTo(Math.max(i, j)) + Math.min(i, j);
            int behind = pairsUpTo(atomsOf(word)) - 1 - pair;
            return (int) (word >> (BITS * behind)) & MASK;
        }
    }

    /** Finds the key of a molecule of at most CAP atoms. */
    private static final class KeySearch {
        private static final int ABOVE_ALL = 1 << Word.ORDERS_BITS;

        private final int[] sorted = new int[MOST_CAP];
        private final int[] ordering = new int[MOST_CAP];
        /** At k the least row of orders among the first k + 1 atoms that an ordering had so far. */
        private final int[] least = new int[MOST_CAP];

        long leastWord(Graph graph, int[] atoms, int count) {
            sortByCode(graph, atoms, count);
            int codes = 0;
            for (int k = 0; k < count; k++) {
                codes = codes << Word.BITS | graph.codes[sorted[k]];
                least[k] = ABOVE_ALL;
            }
            placeAtom(graph, count, 0, 0, 0);
            return Word.pack(count, codes, least[count - 1]);
        }

        private void sortByCode(Graph graph, int[] atoms, int count) {
            for (int k = 0; k < count; k++) {
                int code = graph.codes[atoms[k]];
                int at = k;
                for (; at > 0 && graph.codes[sorted[at - 1]] > code; at--) {
                    sorted[at] = sorted[at - 1];
                }
                sorted[at] = atoms[k];
            }
        }

        /** The codes come first in a word, so the least one has them sorted: only equal ones swap. */
        private void placeAtom(Graph graph, int count, int place, int orders, int taken) {
            int code = graph.codes[sorted[place]];
            for (int k = 0; k < count; k++) {
                int atom = sorted[k];
                if ((taken >> k & 1) != 0 || graph.codes[atom] != code) {
                    continue;
                }
                int longer = withOrdersOf(graph, atom, place, orders);
                if (longer > least[place]) {
                    continue;
                }
                // What is kept for longer rows needs no reset: those with a less beginning are less.
                least[place] = longer;
                if (place + 1 < count) {
                    ordering[place] = atom;
                    placeAtom(graph, count, place + 1, longer, taken | 1 << k);
                }
            }
        }

        private int withOrdersOf(Graph graph, int atom, int place, int orders) {
            int longer = orders;
            for (int k = 0; k < place; k++) {
                longer = longer << Word.BITS | graph.orders[ordering[k]][atom];
            }
            return longer;
        }
    }

    /** The keys of the species, by number. */
    private static final class Table {
        private final long[] words = new long[MOST_SPECIES];
        private final int[] renumbered = new int[MOST_SPECIES];
        private int count;

        /** The number of the species, NONE when it is not there and has no room. */
        int put(long word) {
            for (int s = 0; s < count; s++) {
                if (words[s] == word) {
                    return s;
                }
            }
            if (count >= MOST_SPECIES) {
                return NONE;
            }
            words[count] = word;
            count++;
            return count - 1;
        }

        void keepFirst(int kept) {
            count = kept;
        }

        /** Orders the species from a number on by key, and keeps what each number has become. */
        void sortFrom(int from) {
            for (int s = 0; s < count; s++) {
                renumbered[s] = s < from ? s : from + countLess(from, words[s]);
            }
            for (int s = from + 1; s < count; s++) {
                long moved = words[s];
                int at = s;
                for (; at > from && words[at - 1] > moved; at--) {
                    words[at] = words[at - 1];
                }
                words[at] = moved;
            }
        }

        private int countLess(int from, long word) {
            int less = 0;
            for (int s = from; s < count; s++) {
                if (words[s] < word) {
                    less++;
                }
            }
            return less;
        }
    }

    /** Two or three places, and the orders between each two of them. */
    private static final class Rule {
        private final int[] codes = new int[MOST_PLACES];
        private final int[] before = new int[MOST_PLACES];
        private final int[] after = new int[MOST_PLACES];
        private int places;

        /** Three places have three pairs: (0, 1), (0, 2) and (1, 2) stand at 0, 1 and 2. */
        static int pairOf(int i, int j) {
            return i + j - 1;
        }

        /** Called once, no rule ever goes: the orders are 0 still. */
        void begin(int a, int b, int c) {
            codes[0] = a;
            codes[1] = b;
            codes[2] = c;
            places = c == NONE ? 2 : 3;
        }

        void setOrders(int i, int j, int orderBefore, int orderAfter) {
            before[pairOf(i, j)] = orderBefore;
            after[pairOf(i, j)] = orderAfter;
        }

        boolean isIdle() {
            for (int pair = 0; pair < MOST_PLACES; pair++) {
                if (before[pair] != after[pair]) {
                    return false;
                }
            }
            return true;
        }
    }

    /** One molecule, or two side by side. */
    private static final class Mixture {
        private static final int MOST_ATOMS = 2 * MOST_CAP;

        private final Graph graph = new Graph(MOST_ATOMS);
        /** The first atom of the molecule that was added last. */
        private int lastBegin;

        void clear() {
            graph.clear();
        }

        void addMolecule(long word) {
            lastBegin = graph.atoms;
            int atoms = Word.atomsOf(word);
            for (int j = 0; j < atoms; j++) {
                int added = graph.addAtom(Word.codeOf(word, j));
                for (int i = 0; i < j && added != NONE; i++) {
                    graph.setOrder(lastBegin + i, added, Word.orderOf(word, i, j));
                }
            }
        }

        boolean isTouchedWhole(int[] chosen, int places) {
            boolean touchesFirst = lastBegin == 0;
            boolean touchesLast = false;
            for (int p = 0; p < places; p++) {
                if (chosen[p] < lastBegin) {
                    touchesFirst = true;
                } else {
                    touchesLast = true;
                }
            }
            return touchesFirst && touchesLast;
        }

        void rewrite(int[] chosen, int places, int[] orders) {
            for (int j = 1; j < places; j++) {
                for (int i = 0; i < j; i++) {
                    graph.setOrder(chosen[i], chosen[j], orders[Rule.pairOf(i, j)]);
                }
            }
        }
    }

    /** Finds the matches of a rule in a mixture. */
    private static final class Finder {
        private static final int MOST_MATCHES =
                Mixture.MOST_ATOMS * (Mixture.MOST_ATOMS - 1) * (Mixture.MOST_ATOMS - 2);

        private final int[] chosen = new int[MOST_PLACES];
        private final int[] found = new int[MOST_MATCHES * MOST_PLACES];
        private int count;

        int find(Rule rule, Mixture mixture) {
            count = 0;
            choose(rule, mixture, 0);
            return count;
        }

        void recall(int match) {
            System.arraycopy(found, match * MOST_PLACES, chosen, 0, MOST_PLACES);
        }

        private void choose(Rule rule, Mixture mixture, int place) {
            for (int a = 0; a < mixture.graph.atoms; a++) {
                if (!fits(rule, mixture.graph, place, a)) {
                    continue;
                }
                chosen[place] = a;
                if (place + 1 < rule.places) {
                    choose(rule, mixture, place + 1);
                } else if (mixture.isTouchedWhole(chosen, rule.places)) {
                    keep();
                }
            }
        }

        private boolean fits(Rule rule, Graph graph, int place, int a) {
            if (graph.codes[a] != rule.codes[place]) {
                return false;
            }
            for (int p = 0; p < place; p++) {
                int other = chosen[p];
                if (other == a || graph.orders[other][a] != rule.before[Rule.pairOf(p, place)]) {
                    return false;
                }
            }
            return true;
        }

        private void keep() {
            if (count < MOST_MATCHES) {
                System.arraycopy(chosen, 0, found, count * MOST_PLACES, MOST_PLACES);
                count++;
            }
        }
    }

    /** The molecules that a rewritten mixture falls into. */
    private static final class Products {
        private final long[] words = new long[MOST_PLACES];
        private final int[] joined = new int[Mixture.MOST_ATOMS];
        private int joinedCount;
        private int count;

        /**
         * False when the match yields nothing. Only atoms of the match have changed bonds, and every
         * molecule that is left holds one of them, so no other atom is looked at.
         */
        boolean split(Graph graph, int[] chosen, int places, int cap, KeySearch keySearch) {
            count = 0;
            for (int p = 0; p < places; p++) {
                if (graph.isOverloaded(chosen[p])) {
                    return false;
                }
            }
            int seen = 0;
            for (int p = 0; p < places; p++) {
                if ((seen >> chosen[p] & 1) != 0) {
                    continue;
                }
                seen |= gatherJoined(graph, chosen[p]);
                if (joinedCount > cap) {
                    return false;
                }
                words[count] = keySearch.leastWord(graph, joined, joinedCount);
                count++;
            }
            return true;
        }

        /** The atoms joined with a first one, as bits too. */
        private int gatherJoined(Graph graph, int first) {
            int seen = 1 << first;
            joined[0] = first;
            joinedCount = 1;
            for (int k = 0; k < joinedCount && k < graph.atoms; k++) {
                int[] orders = graph.orders[joined[k]];
                for (int b = 0; b < graph.atoms; b++) {
                    if (orders[b] != 0 && (seen >> b & 1) == 0) {
                        seen |= 1 << b;
                        joined[joinedCount] = b;
                        joinedCount++;
                    }
                }
            }
            return seen;
        }
    }

    /**
     * Reactions in order, each in an int: its five numbers with 1 added, four bits each, the first
     * highest, so that reactions compare as their ints do.
     */
    private static final class ReactionList {
        private static final int BITS = 4;
        private static final int MASK = 15;

        private final int[] rows = new int[MOST_REACTIONS];
        private int count;

        static int pack(int[] written) {
            int row = 0;
            for (int k = 0; k < WRITTEN_PLACES; k++) {
                row = row << BITS | (written[k] + 1);
            }
            return row;
        }

        int numberAt(int i, int k) {
            return (rows[i] >> (BITS * (WRITTEN_PLACES - 1 - k)) & MASK) - 1;
        }

        void copyFrom(ReactionList other) {
            System.arraycopy(other.rows, 0, rows, 0, other.count);
            count = other.count;
        }

        /** False when the reaction is not there and has no room. */
        boolean put(int row) {
            if (holds(row)) {
                return true;
            }
            if (count >= MOST_REACTIONS) {
                return false;
            }
            int at = count;
            for (; at > 0 && rows[at - 1] > row; at--) {
                rows[at] = rows[at - 1];
            }
            rows[at] = row;
            count++;
            return true;
        }

        private boolean holds(int row) {
            for (int i = 0; i < count; i++) {
                if (rows[i] == row) {
                    return true;
                }
            }
            return false;
        }
    }
}
