import java.util.function.Supplier;

/**
 * What can be seen of an object, as one text, to tell whether a refused call left it as it was. Each
 * part is looked at on an object of its own, made anew, since no object may have more than 512 calls.
 */
final class Seen {
    private static final int MOST_RULES = 3;

    private Seen() {
    }

    static String of(Supplier<SpeciesRounds> made) {
        StringBuilder seen = new StringBuilder();
        seen.append(species(made.get()));
        seen.append(" | ").append(reactions(made.get()));
        for (int rule = 0; rule <= MOST_RULES; rule++) {
            seen.append(" | ").append(matches(made.get(), rule));
        }
        seen.append(" | ").append(line(made.get()));
        return seen.append(" | ").append(nextRule(made.get())).toString();
    }

    /** What a round makes of it tells the orders after, too. */
    static String withRound(Supplier<SpeciesRounds> made) {
        Supplier<SpeciesRounds> rounded = () -> {
            SpeciesRounds x = made.get();
            x.round();
            return x;
        };
        return of(made) + " | round " + made.get().round() + " | " + of(rounded);
    }

    static String species(SpeciesRounds x) {
        StringBuilder seen = new StringBuilder();
        int count = x.species();
        for (int s = 0; s < count; s++) {
            seen.append(Check.wordOf(x, s)).append(' ');
        }
        return seen.append(x.size(count)).toString();
    }

    static String reactions(SpeciesRounds x) {
        StringBuilder seen = new StringBuilder();
        int count = x.reactions();
        for (int i = 0; i < count; i++) {
            for (int k = 0; k < 5; k++) {
                seen.append(x.reaction(i, k)).append(k < 4 ? " " : "; ");
            }
        }
        return seen.append(x.reaction(count, 0)).toString();
    }

    private static String matches(SpeciesRounds x, int rule) {
        StringBuilder seen = new StringBuilder();
        int count = x.species();
        for (int s = 0; s < count; s++) {
            for (int t = -1; t <= s; t++) {
                seen.append(x.matches(rule, s, t)).append(' ');
            }
        }
        return seen.toString();
    }

    /** The answer tells most of the line, its length the rest. */
    private static String line(SpeciesRounds x) {
        int length = 0;
        while (length < 30 && x.back()) {
            length++;
        }
        return "line of " + length;
    }

    private static String nextRule(SpeciesRounds x) {
        return "next rule " + x.rule(0, 0, -1) + ", enter " + x.enter();
    }
}
