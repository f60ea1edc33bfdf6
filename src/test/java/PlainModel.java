import java.util.ArrayList;
import java.util.Arrays;
import java.util.Collections;
import java.util.HashMap;
import java.util.HashSet;
import java.util.List;
import java.util.Map;
import java.util.Set;
import java.util.TreeSet;

/**
 * The document once more, in the most literal form: the grammar by its own sentences, keys by trying
 * every ordering, rounds over sets. Slow and wasteful; the program is compared with it.
 */
final class PlainModel {
    /** A molecule or a mixture: codes, and a full table of orders. */
    static final class Mol {
        final List<Integer> codes = new ArrayList<>();
        final int[][] order = new int[60][60];
    }

    private final int cap;
    private String line = "";
    private final List<List<Integer>> table = new ArrayList<>();
    private final List<int[]> rules = new ArrayList<>();
    private final List<int[][]> before = new ArrayList<>();
    private final List<int[][]> after = new ArrayList<>();
    private List<List<Integer>> list = new ArrayList<>();

    PlainModel(int cap) {
        this.cap = cap < 2 ? 2 : cap > 5 ? 5 : cap;
    }

    boolean key(char c) {
        if (c < 32 || c > 126 || line.length() == 24) {
            return false;
        }
        line += c;
        return true;
    }

    boolean back() {
        if (line.isEmpty()) {
            return false;
        }
        line = line.substring(0, line.length() - 1);
        return true;
    }

    // ---- the language: each method gives the set of places where such a thing may end ----

    private final Map<String, Set<Integer>> known = new HashMap<>();

    private boolean isText(String s) {
        known.clear();
        return chain(s, 0).contains(s.length());
    }

    private boolean isBeginning(String s) {
        for (String letter : new String[] {"", "C"}) {
            String close = "";
            for (int k = 0; k <= s.length(); k++) {
                if (isText(s + letter + close)) {
                    return true;
                }
                close += ")";
            }
        }
        return false;
    }

    private Set<Integer> chain(String s, int at) {
        if (at >= s.length() || "HONC".indexOf(s.charAt(at)) < 0) {
            return Set.of();
        }
        return rest(s, at + 1);
    }

    private Set<Integer> rest(String s, int at) {
        String name = "rest" + at;
        Set<Integer> done = known.get(name);
        if (done != null) {
            return done;
        }
        Set<Integer> ends = new HashSet<>();
        ends.add(at);
        for (int e : branch(s, at)) {
            ends.addAll(rest(s, e));
        }
        for (int e : mark(s, at)) {
            ends.addAll(rest(s, e));
        }
        for (int e : link(s, at)) {
            ends.addAll(chain(s, e));
        }
        known.put(name, ends);
        return ends;
    }

    private Set<Integer> branch(String s, int at) {
        Set<Integer> ends = new HashSet<>();
        if (at < s.length() && s.charAt(at) == '(') {
            for (int e : link(s, at + 1)) {
                for (int f : chain(s, e)) {
                    if (f < s.length() && s.charAt(f) == ')') {
                        ends.add(f + 1);
                    }
                }
            }
        }
        return ends;
    }

    private Set<Integer> mark(String s, int at) {
        Set<Integer> ends = new HashSet<>();
        for (int e : link(s, at)) {
            if (e < s.length() && (s.charAt(e) == '1' || s.charAt(e) == '2')) {
                ends.add(e + 1);
            }
        }
        return ends;
    }

    private Set<Integer> link(String s, int at) {
        Set<Integer> ends = new HashSet<>();
        ends.add(at);
        if (at < s.length() && "-=#".indexOf(s.charAt(at)) >= 0) {
            ends.add(at + 1);
        }
        return ends;
    }

    // ---- drawing a text ----

    private Mol mol;
    private boolean clash;
    private final Map<Character, int[]> remembered = new HashMap<>();

    /** Draws the chain at a place, hung on an atom (-1: none), and tells where it ends. */
    private int drawChain(String s, int at, int hung, int order) {
        int me = mol.codes.size();
        mol.codes.add("HONC".indexOf(s.charAt(at)));
        if (hung >= 0) {
            drawBond(hung, me, order);
        }
        int p = at + 1;
        while (p < s.length() && s.charAt(p) != ')') {
            if (s.charAt(p) == '(') {
                int l = orderAt(s, p + 1);
                p = drawChain(s, p + 1 + (l > 0 ? 1 : 0), me, Math.max(l, 1)) + 1;
                continue;
            }
            int l = orderAt(s, p);
            if (l > 0) {
                p++;
            }
            if ("12".indexOf(s.charAt(p)) < 0) {
                return drawChain(s, p, me, Math.max(l, 1));
            }
            drawMark(s.charAt(p), me, Math.max(l, 1));
            p++;
        }
        return p;
    }

    private static int orderAt(String s, int p) {
        return "-=#".indexOf(s.charAt(p)) + 1;
    }

    private void drawMark(char digit, int me, int order) {
        int[] first = remembered.remove(digit);
        if (first == null) {
            remembered.put(digit, new int[] {me, order});
            return;
        }
        if (first[1] != order) {
            clash = true;
        }
        drawBond(first[0], me, order);
    }

    private void drawBond(int a, int b, int order) {
        if (a == b || mol.order[a][b] != 0) {
            clash = true;
        }
        mol.order[a][b] = order;
        mol.order[b][a] = order;
    }

    int enter() {
        String s = line;
        line = "";
        if (!isText(s)) {
            for (int p = 0; p < s.length(); p++) {
                if (!isBeginning(s.substring(0, p + 1))) {
                    return -1 - p;
                }
            }
            return -1 - s.length();
        }
        mol = new Mol();
        clash = false;
        remembered.clear();
        drawChain(s, 0, -1, 0);
        if (!remembered.isEmpty()) {
            return -100;
        }
        if (clash) {
            return -101;
        }
        if (mol.codes.size() > cap) {
            return -102;
        }
        if (isOverloaded(mol)) {
            return -103;
        }
        List<Integer> word = keyOf(mol, allOf(mol));
        if (!table.contains(word)) {
            if (table.size() == 12) {
                return -104;
            }
            table.add(word);
        }
        return table.indexOf(word);
    }

    private static boolean isOverloaded(Mol m) {
        for (int a = 0; a < m.codes.size(); a++) {
            if (Arrays.stream(m.order[a]).sum() > 1 + m.codes.get(a)) {
                return true;
            }
        }
        return false;
    }

    // ---- words ----

    private static List<Integer> allOf(Mol m) {
        List<Integer> all = new ArrayList<>();
        for (int a = 0; a < m.codes.size(); a++) {
            all.add(a);
        }
        return all;
    }

    private static int compareWords(List<Integer> one, List<Integer> two) {
        for (int k = 0; k < Math.min(one.size(), two.size()); k++) {
            if (!one.get(k).equals(two.get(k))) {
                return one.get(k) - two.get(k);
            }
        }
        return 0;
    }

    private static List<Integer> keyOf(Mol m, List<Integer> atoms) {
        List<List<Integer>> words = new ArrayList<>();
        everyOrdering(m, new ArrayList<>(), atoms, words);
        return Collections.min(words, PlainModel::compareWords);
    }

    private static void everyOrdering(Mol m, List<Integer> front, List<Integer> left, List<List<Integer>> words) {
        if (left.isEmpty()) {
            List<Integer> word = new ArrayList<>();
            word.add(front.size());
            for (int a : front) {
                word.add(m.codes.get(a));
            }
            for (int j = 1; j < front.size(); j++) {
                for (int i = 0; i < j; i++) {
                    word.add(m.order[front.get(i)][front.get(j)]);
                }
            }
            words.add(word);
            return;
        }
        for (Integer a : left) {
            List<Integer> longer = new ArrayList<>(front);
            longer.add(a);
            List<Integer> fewer = new ArrayList<>(left);
            fewer.remove(a);
            everyOrdering(m, longer, fewer, words);
        }
    }

    private static void pour(Mol into, List<Integer> word) {
        int base = into.codes.size();
        int n = word.get(0);
        for (int i = 0; i < n; i++) {
            into.codes.add(word.get(1 + i));
        }
        int at = 1 + n;
        for (int j = 1; j < n; j++) {
            for (int i = 0; i < j; i++) {
                into.order[base + i][base + j] = word.get(at);
                into.order[base + j][base + i] = word.get(at);
                at++;
            }
        }
    }

    // ---- the table ----

    int species() {
        return table.size();
    }

    int size(int s) {
        return s < 0 || s >= table.size() ? -1 : table.get(s).get(0);
    }

    int atom(int s, int i) {
        return i < 0 || i >= size(s) ? -1 : table.get(s).get(1 + i);
    }

    int bond(int s, int i, int j) {
        if (i < 0 || j < 0 || i >= size(s) || j >= size(s)) {
            return -1;
        }
        Mol m = new Mol();
        pour(m, table.get(s));
        return m.order[i][j];
    }

    // ---- rules ----

    int rule(int a, int b, int c) {
        if (rules.size() == 3 || a < 0 || a > 3 || b < 0 || b > 3 || c < -1 || c > 3) {
            return -1;
        }
        rules.add(c == -1 ? new int[] {a, b} : new int[] {a, b, c});
        before.add(new int[3][3]);
        after.add(new int[3][3]);
        return rules.size() - 1;
    }

    boolean change(int rule, int i, int j, int b, int f) {
        if (rule < 0 || rule >= rules.size() || i < 0 || j >= rules.get(rule).length || i >= j) {
            return false;
        }
        if (b < 0 || b > 3 || f < 0 || f > 3) {
            return false;
        }
        before.get(rule)[i][j] = b;
        after.get(rule)[i][j] = f;
        return true;
    }

    private List<int[]> matchesOf(int rule, Mol m, int firstSize) {
        List<int[]> all = new ArrayList<>();
        int n = m.codes.size();
        int places = rules.get(rule).length;
        for (int a = 0; a < n; a++) {
            for (int b = 0; b < n; b++) {
                for (int c = 0; c < (places == 3 ? n : 1); c++) {
                    int[] chosen = places == 3 ? new int[] {a, b, c} : new int[] {a, b};
                    if (isMatch(rule, m, firstSize, chosen)) {
                        all.add(chosen);
                    }
                }
            }
        }
        return all;
    }

    private boolean isMatch(int rule, Mol m, int firstSize, int[] chosen) {
        boolean first = false;
        boolean second = firstSize == m.codes.size();
        for (int p = 0; p < chosen.length; p++) {
            if (m.codes.get(chosen[p]) != rules.get(rule)[p]) {
                return false;
            }
            first |= chosen[p] < firstSize;
            second |= chosen[p] >= firstSize;
            for (int q = p + 1; q < chosen.length; q++) {
                if (chosen[p] == chosen[q] || m.order[chosen[p]][chosen[q]] != before.get(rule)[p][q]) {
                    return false;
                }
            }
        }
        return first && second;
    }

    int matches(int rule, int s, int t) {
        if (rule < 0 || rule >= rules.size() || s < 0 || s >= table.size() || t < -1 || t >= table.size()) {
            return -1;
        }
        return matchesOf(rule, mixture(s, t), size(s)).size();
    }

    private Mol mixture(int s, int t) {
        Mol m = new Mol();
        pour(m, table.get(s));
        if (t >= 0) {
            pour(m, table.get(t));
        }
        return m;
    }

    // ---- rounds ----

    /** The keys of the products, or null when the match yields nothing. */
    private List<List<Integer>> yieldOf(int rule, Mol m, int[] chosen) {
        Mol become = new Mol();
        become.codes.addAll(m.codes);
        for (int a = 0; a < m.codes.size(); a++) {
            become.order[a] = m.order[a].clone();
        }
        for (int p = 0; p < chosen.length; p++) {
            for (int q = p + 1; q < chosen.length; q++) {
                become.order[chosen[p]][chosen[q]] = after.get(rule)[p][q];
                become.order[chosen[q]][chosen[p]] = after.get(rule)[p][q];
            }
        }
        if (isOverloaded(become)) {
            return null;
        }
        List<List<Integer>> keys = new ArrayList<>();
        for (List<Integer> part : partsOf(become)) {
            if (part.size() > cap) {
                return null;
            }
            keys.add(keyOf(become, part));
        }
        return keys;
    }

    private static List<List<Integer>> partsOf(Mol m) {
        int n = m.codes.size();
        int[] name = new int[n];
        for (int a = 0; a < n; a++) {
            name[a] = a;
        }
        for (int a = 0; a < n; a++) {
            for (int b = 0; b < n; b++) {
                if (m.order[a][b] > 0) {
                    int old = name[a];
                    for (int c = 0; c < n; c++) {
                        name[c] = name[c] == old ? name[b] : name[c];
                    }
                }
            }
        }
        Map<Integer, List<Integer>> parts = new HashMap<>();
        for (int a = 0; a < n; a++) {
            parts.computeIfAbsent(name[a], k -> new ArrayList<>()).add(a);
        }
        return new ArrayList<>(parts.values());
    }

    int round() {
        TreeSet<List<Integer>> fresh = new TreeSet<>(PlainModel::compareWords);
        List<Object[]> met = new ArrayList<>();
        for (int s = 0; s < table.size(); s++) {
            for (int t = -1; t < table.size(); t++) {
                Mol m = mixture(s, t);
                for (int r = 0; r < rules.size(); r++) {
                    for (int[] chosen : matchesOf(r, m, size(s))) {
                        List<List<Integer>> keys = yieldOf(r, m, chosen);
                        if (keys != null) {
                            fresh.addAll(keys);
                            met.add(new Object[] {s, t, keys});
                        }
                    }
                }
                if (fresh.size() > 24) {
                    return -1;
                }
            }
        }
        List<List<Integer>> larger = new ArrayList<>(table);
        for (List<Integer> key : fresh) {
            if (!table.contains(key)) {
                larger.add(key);
            }
        }
        TreeSet<List<Integer>> rows = new TreeSet<>(PlainModel::compareWords);
        rows.addAll(list);
        for (Object[] one : met) {
            addRow(rows, larger, one);
        }
        if (larger.size() > 12 || rows.size() > 40) {
            return -1;
        }
        int answer = larger.size() - table.size();
        table.clear();
        table.addAll(larger);
        list = new ArrayList<>(rows);
        return answer;
    }

    private static void addRow(Set<List<Integer>> rows, List<List<Integer>> larger, Object[] met) {
        List<Integer> reactants = new ArrayList<>(List.of((Integer) met[0], (Integer) met[1]));
        List<Integer> made = new ArrayList<>();
        for (Object key : (List<?>) met[2]) {
            made.add(larger.indexOf(key));
        }
        Collections.sort(reactants);
        while (made.size() < 3) {
            made.add(-1);
        }
        Collections.sort(made);
        List<Integer> padded = new ArrayList<>(reactants);
        padded.add(-1);
        Collections.sort(padded);
        if (!padded.equals(made)) {
            reactants.addAll(made);
            rows.add(reactants);
        }
    }

    int reactions() {
        return list.size();
    }

    int reaction(int i, int k) {
        return i < 0 || i >= list.size() || k < 0 || k > 4 ? -2 : list.get(i).get(k);
    }
}
