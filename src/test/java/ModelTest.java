import java.util.Random;
import java.util.function.IntSupplier;

/** Random runs of calls, fixed by their seeds, on the program and on the plain model of the document. */
public final class ModelTest {
    private static final int RUNS = 1000;
    /** So many that all species and reactions can be looked at within the calls that an object has. */
    private static final int CALLS = 80;
    private static final int MOST_CALLS = 512;

    private final Check check = new Check();
    private final int[] roundAnswers = new int[3];
    private int longestList;
    private Random random;
    private SpeciesRounds x;
    private PlainModel model;
    private String where;
    private int calls;

    public static void main(String[] args) {
        ModelTest test = new ModelTest();
        for (int seed = 1; seed <= RUNS && !test.check.failed(); seed++) {
            test.run(seed);
            test.runWorld(seed);
            test.runWild(seed);
        }
        System.out.println("rounds refused, without and with new species: " + test.roundAnswers[0] + ", "
                + test.roundAnswers[1] + ", " + test.roundAnswers[2] + "; longest list: " + test.longestList);
        test.check.end();
    }

    private void begin(String name, int seed, int cap) {
        x = new SpeciesRounds(cap);
        model = new PlainModel(cap);
        where = name + " " + seed;
        calls = 0;
    }

    private void run(int seed) {
        random = new Random(seed);
        begin("run", seed, random.nextInt(8));
        // Few letters make closed worlds that rounds can fill; many make the odd cases.
        String letters = new String[] {"HONC", "HO", "HC", "C", "ON", "HHON", "NC"}[random.nextInt(7)];
        while (calls < CALLS && !check.failed()) {
            step(letters);
        }
        compareAll();
    }

    /** A few molecules and rules that fit them, then round after round: tables and lists that fill up. */
    private void runWorld(int seed) {
        random = new Random(-seed);
        begin("world", seed, 2 + random.nextInt(4));
        String[] worlds = {"H O HH HO HOH OO", "C CC C=C C#C CCC C1CC1 CCCC", "H C HC HCH C(H)(H)(H)H CC",
            "C O C=O CO O=C=O C(=O)O", "N N#N N=N NN HN HNH N1NN1", "H O N HON HN=O HO HN N=O", "C=C HH H C"};
        String[] texts = worlds[random.nextInt(worlds.length)].split(" ");
        for (int k = 1 + random.nextInt(9); k > 0; k--) {
            enter(texts[random.nextInt(texts.length)]);
        }
        String letters = String.join("", texts).replaceAll("[^HONC]", "");
        for (int r = 0; r < 3; r++) {
            rule(letters);
            for (int k = random.nextInt(3); k >= 0; k--) {
                gentleChange(r);
            }
        }
        for (int k = 0; k < 6 && !check.failed(); k++) {
            round();
            if (random.nextInt(3) == 0) {
                gentleChange(random.nextInt(3));
            }
        }
        compareAll();
    }

    /** Any number for any argument, far ones and near ones. */
    private void runWild(int seed) {
        random = new Random(seed * 31L + 7);
        begin("wild", seed, wild());
        while (calls < CALLS && !check.failed()) {
            int a = wild();
            int b = wild();
            int c = wild();
            due("key(" + (a & 65535) + ")", () -> x.key((char) a) ? 1 : 0, model.key((char) a) ? 1 : 0);
            due("size(" + a + ")", () -> x.size(a), model.size(a));
            due("atom(" + a + ", " + b + ")", () -> x.atom(a, b), model.atom(a, b));
            due("bond(" + a + ", " + b + ", " + c + ")", () -> x.bond(a, b, c), model.bond(a, b, c));
            due("rule(" + a + ", " + b + ", " + c + ")", () -> x.rule(a, b, c), model.rule(a, b, c));
            due("matches(" + a + ", " + b + ", " + c + ")", () -> x.matches(a, b, c), model.matches(a, b, c));
            due("reaction(" + a + ", " + b + ")", () -> x.reaction(a, b), model.reaction(a, b));
            wildChange();
            enter(molecule("HONC"));
            if (random.nextInt(4) == 0) {
                round();
            }
        }
        compareAll();
    }

    private void wildChange() {
        int rule = random.nextInt(5) == 0 ? wild() : random.nextInt(3);
        int i = random.nextInt(5) == 0 ? wild() : random.nextInt(2);
        int j = random.nextInt(5) == 0 ? wild() : 1 + random.nextInt(2);
        int before = random.nextInt(5) == 0 ? wild() : random.nextInt(4);
        int after = random.nextInt(5) == 0 ? wild() : random.nextInt(4);
        due("change(" + rule + ", " + i + ", " + j + ", " + before + ", " + after + ")",
                () -> x.change(rule, i, j, before, after) ? 1 : 0, model.change(rule, i, j, before, after) ? 1 : 0);
    }

    private int wild() {
        int kind = random.nextInt(12);
        return kind == 0 ? random.nextInt() : kind < 3 ? Check.FAR[random.nextInt(Check.FAR.length)]
                : kind < 5 ? random.nextInt(18) - 4 : random.nextInt(5) - 1;
    }

    /** Orders that differ by one are those that matches are likeliest to have and to stand. */
    private void gentleChange(int rule) {
        int i = random.nextInt(2);
        int j = 1 + random.nextInt(2);
        int before = random.nextInt(random.nextBoolean() ? 2 : 3);
        int after = random.nextBoolean() ? before + 1 : Math.max(0, before - 1);
        due("change(" + rule + ", " + i + ", " + j + ", " + before + ", " + after + ")",
                () -> x.change(rule, i, j, before, after) ? 1 : 0, model.change(rule, i, j, before, after) ? 1 : 0);
    }

    private void step(String letters) {
        int kind = random.nextInt(20);
        if (kind < 7) {
            enter(random.nextInt(4) == 0 ? noise() : molecule(letters));
        } else if (kind < 9) {
            rule(letters);
        } else if (kind < 13) {
            change();
        } else if (kind < 15) {
            round();
        } else if (kind < 17) {
            matches();
        } else if (kind < 18) {
            due("back()", () -> x.back() ? 1 : 0, model.back() ? 1 : 0);
        } else {
            ask();
        }
    }

    private void due(String call, IntSupplier asked, int want) {
        if (calls < MOST_CALLS) {
            calls++;
            check.due(where + ", call " + calls + ": " + call, asked.getAsInt(), want);
        }
    }

    private void enter(String text) {
        for (char c : text.toCharArray()) {
            due("key(" + (int) c + ")", () -> x.key(c) ? 1 : 0, model.key(c) ? 1 : 0);
        }
        if (random.nextInt(30) != 0) {
            due("enter() of " + text, () -> x.enter(), model.enter());
        }
    }

    private String noise() {
        String from = "HONCC()()-=#12123\u001f ~\u007f\u00c3";
        StringBuilder text = new StringBuilder(random.nextInt(3) == 0 ? "" : "C");
        int length = random.nextInt(random.nextInt(10) == 0 ? 30 : 8);
        for (int k = 0; k < length; k++) {
            text.append(from.charAt(random.nextInt(from.length())));
        }
        return text.toString();
    }

    private String molecule(String letters) {
        StringBuilder text = new StringBuilder();
        chain(text, letters, 1 + random.nextInt(5));
        return text.toString();
    }

    private void chain(StringBuilder text, String letters, int atoms) {
        text.append(letters.charAt(random.nextInt(letters.length())));
        int left = atoms - 1;
        while (left > 0) {
            if (random.nextInt(5) == 0) {
                text.append(link()).append(1 + random.nextInt(2));
            }
            int part = 1 + random.nextInt(left);
            if (random.nextInt(2) == 0) {
                text.append('(').append(link());
                chain(text, letters, part);
                text.append(')');
            } else {
                text.append(link());
                chain(text, letters, left);
                return;
            }
            left -= part;
        }
        while (random.nextInt(5) == 0) {
            text.append(link()).append(1 + random.nextInt(2));
        }
    }

    private String link() {
        return new String[] {"", "", "", "", "-", "=", "=", "#"}[random.nextInt(8)];
    }

    private int code(String letters) {
        if (random.nextInt(20) == 0) {
            return random.nextInt(8) - 2;
        }
        return "HONC".indexOf(letters.charAt(random.nextInt(letters.length())));
    }

    private void rule(String letters) {
        int a = code(letters);
        int b = code(letters);
        int c = random.nextBoolean() ? -1 : code(letters);
        due("rule(" + a + ", " + b + ", " + c + ")", () -> x.rule(a, b, c), model.rule(a, b, c));
    }

    private int order() {
        return random.nextInt(25) == 0 ? random.nextInt(8) - 2 : random.nextInt(random.nextBoolean() ? 2 : 4);
    }

    private void change() {
        int rule = random.nextInt(10) == 0 ? random.nextInt(7) - 2 : random.nextInt(3);
        int i = random.nextInt(10) == 0 ? random.nextInt(6) - 2 : random.nextInt(2);
        int j = random.nextInt(10) == 0 ? random.nextInt(6) - 2 : i + 1 + random.nextInt(2);
        int before = order();
        int after = order();
        due("change(" + rule + ", " + i + ", " + j + ", " + before + ", " + after + ")",
                () -> x.change(rule, i, j, before, after) ? 1 : 0, model.change(rule, i, j, before, after) ? 1 : 0);
    }

    private void matches() {
        int rule = random.nextInt(10) == 0 ? random.nextInt(7) - 2 : random.nextInt(3);
        int s = random.nextInt(model.species() + 3) - 1;
        int t = random.nextInt(model.species() + 4) - 2;
        due("matches(" + rule + ", " + s + ", " + t + ")", () -> x.matches(rule, s, t), model.matches(rule, s, t));
    }

    private void round() {
        int due = model.round();
        roundAnswers[due < 0 ? 0 : due == 0 ? 1 : 2]++;
        longestList = Math.max(longestList, model.reactions());
        due("round()", () -> x.round(), due);
        due("species()", () -> x.species(), model.species());
        due("reactions()", () -> x.reactions(), model.reactions());
        compareReaction(model.reactions() - 1);
        compareReaction(random.nextInt(1 + model.reactions()));
    }

    private void ask() {
        int s = random.nextInt(model.species() + 2) - 1;
        int i = random.nextInt(8) - 1;
        int j = random.nextInt(8) - 1;
        due("species()", () -> x.species(), model.species());
        due("size(" + s + ")", () -> x.size(s), model.size(s));
        due("atom(" + s + ", " + i + ")", () -> x.atom(s, i), model.atom(s, i));
        due("bond(" + s + ", " + i + ", " + j + ")", () -> x.bond(s, i, j), model.bond(s, i, j));
        due("reaction(" + i + ", " + j + ")", () -> x.reaction(i, j), model.reaction(i, j));
    }

    /** All that can be seen at the end of a run. */
    private void compareAll() {
        due("species()", () -> x.species(), model.species());
        due("reactions()", () -> x.reactions(), model.reactions());
        for (int s = 0; s <= model.species(); s++) {
            compareSpecies(s);
        }
        for (int i = 0; i < model.reactions(); i++) {
            compareReaction(i);
        }
    }

    private void compareSpecies(int s) {
        due("size(" + s + ")", () -> x.size(s), model.size(s));
        for (int j = 0; j < model.size(s); j++) {
            int atom = j;
            due("atom(" + s + ", " + j + ")", () -> x.atom(s, atom), model.atom(s, j));
            for (int k = 0; k < j; k++) {
                int other = k;
                due("bond(" + s + ", " + k + ", " + j + ")", () -> x.bond(s, other, atom), model.bond(s, k, j));
            }
        }
    }

    private void compareReaction(int i) {
        for (int k = 0; k < 5; k++) {
            int place = k;
            due("reaction(" + i + ", " + k + ")", () -> x.reaction(i, place), model.reaction(i, k));
        }
    }
}
