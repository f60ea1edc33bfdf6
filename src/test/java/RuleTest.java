/** Promises 9 to 11: rules, their orders, and their matches. */
public final class RuleTest {
    private static final Check CHECK = new Check();
    private static final int[] FAR = {Integer.MIN_VALUE, -2, 4, Integer.MAX_VALUE};

    public static void main(String[] args) {
        rules();
        changes();
        refusedChangesNothing();
        twoPlaces();
        threePlaces();
        twice();
        noSuch();
        CHECK.end();
    }

    private static void rules() {
        SpeciesRounds x = new SpeciesRounds(5);
        for (int far : FAR) {
            CHECK.due("rule(" + far + ", 0, 0)", x.rule(far, 0, 0), -1);
            CHECK.due("rule(0, " + far + ", 0)", x.rule(0, far, 0), -1);
            CHECK.due("rule(0, 0, " + far + ")", x.rule(0, 0, far), -1);
        }
        CHECK.due("rule(-1, 0, 0)", x.rule(-1, 0, 0), -1);
        CHECK.due("rule(0, -1, 0)", x.rule(0, -1, 0), -1);
        CHECK.due("rule(0, 3, -1)", x.rule(0, 3, -1), 0);
        CHECK.due("rule(3, 0, 3)", x.rule(3, 0, 3), 1);
        CHECK.due("rule(4, 0, 3)", x.rule(4, 0, 3), -1);
        CHECK.due("rule(2, 1, 0)", x.rule(2, 1, 0), 2);
        CHECK.due("a fourth rule", x.rule(0, 0, -1), -1);
        CHECK.due("a fourth rule, again", x.rule(1, 1, 1), -1);
    }

    private static void changes() {
        SpeciesRounds x = new SpeciesRounds(5);
        CHECK.due("change without rules", x.change(0, 0, 1, 0, 0), false);
        x.rule(0, 0, -1);
        x.rule(0, 0, 0);
        for (int far : FAR) {
            CHECK.due("change(" + far + ", ..)", x.change(far, 0, 1, 0, 0), false);
            CHECK.due("change(1, " + far + ", 1, ..)", x.change(1, far, 1, 0, 0), false);
            CHECK.due("change(1, 0, " + far + ", ..)", x.change(1, 0, far, 0, 0), false);
            CHECK.due("change before " + far, x.change(1, 0, 1, far, 0), false);
            CHECK.due("change after " + far, x.change(1, 0, 1, 0, far), false);
        }
        CHECK.due("change before -1", x.change(1, 0, 1, -1, 0), false);
        CHECK.due("change after -1", x.change(1, 0, 1, 0, -1), false);
        CHECK.due("change(-1, ..)", x.change(-1, 0, 1, 0, 0), false);
        CHECK.due("change(2, ..)", x.change(2, 0, 1, 0, 0), false);
        int[][] pairs = {{0, 1, 1, 1}, {0, 2, 0, 1}, {1, 2, 0, 1}, {1, 0, 0, 0}, {2, 0, 0, 0}, {2, 1, 0, 0},
            {0, 0, 0, 0}, {1, 1, 0, 0}, {2, 2, 0, 0}, {0, 3, 0, 0}, {2, 3, 0, 0}, {-1, 0, 0, 0}, {-1, 1, 0, 0}};
        for (int[] pair : pairs) {
            for (int rule = 0; rule < 2; rule++) {
                for (int order = 0; order < 4; order++) {
                    String call = "change(" + rule + ", " + pair[0] + ", " + pair[1] + ", " + order + ", ..)";
                    CHECK.due(call, x.change(rule, pair[0], pair[1], order, 3 - order), pair[2 + rule] == 1);
                }
            }
        }
    }

    private static void refusedChangesNothing() {
        SpeciesRounds x = Check.with(5, "C=C", "CC");
        x.rule(3, 3, -1);
        x.change(0, 0, 1, 2, 1);
        x.change(0, 0, 1, 1, 4);
        x.change(0, 0, 1, 4, 1);
        x.change(0, 1, 0, 1, 1);
        x.change(0, 0, 2, 1, 1);
        CHECK.due("matches after refused changes", x.matches(0, 0, -1), 2);
        CHECK.due("round after refused changes", x.round(), 0);
        CHECK.dueReaction(x, 0, -1, 0, -1, -1, 1);
        x.rule(9, 3, -1);
        CHECK.due("the next rule's number", x.rule(3, 3, 3), 1);
    }

    private static void twoPlaces() {
        SpeciesRounds x = Check.with(5, "HOH", "HH", "O=O", "CCCCC");
        x.rule(0, 1, -1);
        CHECK.due("no bond in water", x.matches(0, 0, -1), 0);
        CHECK.due("H of hydrogen, O of water and back", x.matches(0, 0, 1), 2);
        CHECK.due("the same the other way", x.matches(0, 1, 0), 2);
        CHECK.due("H of water, O of oxygen", x.matches(0, 0, 2), 4);
        x.change(0, 0, 1, 1, 3);
        CHECK.due("bonds in water", x.matches(0, 0, -1), 2);
        CHECK.due("no bond from molecule to molecule", x.matches(0, 0, 2), 0);
        x.change(0, 0, 1, 2, 0);
        CHECK.due("the order must be just so", x.matches(0, 0, -1), 0);
        x.rule(1, 1, -1);
        x.change(1, 0, 1, 2, 0);
        CHECK.due("either way round", x.matches(1, 2, -1), 2);
        CHECK.due("another atom is needed", x.matches(1, 2, 2), 0);
        x.rule(3, 3, -1);
        CHECK.due("pairs without a bond", x.matches(2, 3, -1), 12);
        x.change(2, 0, 1, 1, 1);
        CHECK.due("pairs with a bond", x.matches(2, 3, -1), 8);
    }

    private static void threePlaces() {
        SpeciesRounds x = Check.with(5, "HOH", "C=C", "HH", "C1CC1", "O");
        x.rule(0, 1, 0);
        x.change(0, 0, 1, 1, 0);
        CHECK.due("a bond and none", x.matches(0, 0, -1), 0);
        x.change(0, 1, 2, 1, 0);
        CHECK.due("two bonds", x.matches(0, 0, -1), 2);
        x.change(0, 0, 2, 1, 0);
        CHECK.due("a bond too many", x.matches(0, 0, -1), 0);
        x.change(0, 0, 2, 0, 3);
        x.change(0, 1, 2, 0, 0);
        CHECK.due("H-O of water, H of another", x.matches(0, 0, 0), 8);
        CHECK.due("H-O of water, H of hydrogen", x.matches(0, 0, 2), 4);
        CHECK.due("both molecules are needed", x.matches(0, 0, 4), 0);
        x.rule(3, 3, 3);
        CHECK.due("no bonds in a ring", x.matches(1, 3, -1), 0);
        x.change(1, 0, 1, 1, 0);
        x.change(1, 0, 2, 1, 0);
        x.change(1, 1, 2, 1, 0);
        CHECK.due("a ring", x.matches(1, 3, -1), 6);
        CHECK.due("a ring is in one molecule", x.matches(1, 3, 3), 0);
        CHECK.due("too few atoms", x.matches(1, 1, -1), 0);
    }

    private static void twice() {
        SpeciesRounds x = Check.with(5, "C(C)(C)(C)C", "C");
        x.rule(3, 3, 3);
        CHECK.due("no bonds in one", x.matches(0, 0, -1), 24);
        // Two of one molecule without a bond (12 ordered), one of the other (5), three places for it.
        CHECK.due("no bonds in two", x.matches(0, 0, 0), 2 * 12 * 5 * 3);
        CHECK.due("no bonds with a lone atom", x.matches(0, 0, 1), 12 * 3);
        CHECK.due("no three atoms", x.matches(0, 1, 1), 0);
        x.rule(3, 3, -1);
        CHECK.due("two lone atoms", x.matches(1, 1, 1), 2);
        CHECK.due("one lone atom", x.matches(1, 1, -1), 0);
    }

    private static void noSuch() {
        SpeciesRounds x = Check.with(5, "HOH", "HH");
        CHECK.due("matches without rules", x.matches(0, 0, -1), -1);
        x.rule(0, 0, -1);
        int[] far = {Integer.MIN_VALUE, -2, 2, 12, Integer.MAX_VALUE};
        for (int f : far) {
            CHECK.due("matches(" + f + ", 0, -1)", x.matches(f, 0, -1), -1);
            CHECK.due("matches(0, " + f + ", -1)", x.matches(0, f, -1), -1);
            CHECK.due("matches(0, 0, " + f + ")", x.matches(0, 0, f), -1);
        }
        CHECK.due("matches(-1, 0, -1)", x.matches(-1, 0, -1), -1);
        CHECK.due("matches(1, 0, -1)", x.matches(1, 0, -1), -1);
        CHECK.due("matches(0, -1, 0)", x.matches(0, -1, 0), -1);
        CHECK.due("matches(0, -1, -1)", x.matches(0, -1, -1), -1);
        CHECK.due("matches(0, 1, -1)", x.matches(0, 1, -1), 0);
        CHECK.due("matches(0, 1, 1)", x.matches(0, 1, 1), 8);
    }
}
