/** Promises 12 to 14: rounds and the list of the reactions that were met. */
public final class RoundTest {
    private static final Check CHECK = new Check();
    private static final String[] NINE_WITH_H = {"H", "HH", "HN", "HNH", "HN(H)H", "HO", "HOH", "HOO", "HOOH"};

    public static void main(String[] args) {
        nothingToDo();
        newOnesInTheOrderOfKeys();
        productsAreNumberedAnew();
        onlySpeciesOfTheBeginning();
        twiceTheSame();
        threeProducts();
        onlookers();
        productsThatAreTheReactants();
        tooLarge();
        tooManyBonds();
        listKeepsItsOrder();
        twelveSpecies();
        refusedLeavesNothing();
        fortyReactions();
        noSuch();
        CHECK.end();
    }

    private static void rule(SpeciesRounds x, int a, int b, int before, int after) {
        int rule = x.rule(a, b, -1);
        x.change(rule, 0, 1, before, after);
    }

    private static void nothingToDo() {
        SpeciesRounds x = new SpeciesRounds(5);
        CHECK.due("round of nothing", x.round(), 0);
        rule(x, 0, 0, 0, 1);
        CHECK.due("round without species", x.round(), 0);
        x = Check.with(5, "HOH", "H");
        CHECK.due("round without rules", x.round(), 0);
        x.rule(0, 0, -1);
        rule(x, 0, 1, 1, 1);
        CHECK.due("round of rules that change nothing", x.round(), 0);
        CHECK.due("reactions()", x.reactions(), 0);
        CHECK.due("species()", x.species(), 2);
    }

    private static void newOnesInTheOrderOfKeys() {
        SpeciesRounds x = Check.with(5, "C#C", "N#N", "O");
        rule(x, 3, 3, 3, 2);
        rule(x, 2, 2, 3, 0);
        rule(x, 2, 2, 3, 1);
        CHECK.due("round()", x.round(), 3);
        CHECK.dueWord(x, 2, "1:1:");
        CHECK.dueWord(x, 3, "1:2:");
        CHECK.dueWord(x, 4, "2:22:1");
        CHECK.dueWord(x, 5, "2:33:2");
        CHECK.due("reactions()", x.reactions(), 3);
        CHECK.dueReaction(x, 0, -1, 0, -1, -1, 5);
        CHECK.dueReaction(x, 1, -1, 1, -1, -1, 4);
        CHECK.dueReaction(x, 2, -1, 1, -1, 3, 3);
    }

    /** The atom for the first place is met first, but its key is the larger one. */
    private static void productsAreNumberedAnew() {
        SpeciesRounds x = Check.with(5, "CN");
        rule(x, 3, 2, 1, 0);
        CHECK.due("round()", x.round(), 2);
        CHECK.dueWord(x, 1, "1:2:");
        CHECK.dueWord(x, 2, "1:3:");
        CHECK.due("reactions()", x.reactions(), 1);
        CHECK.dueReaction(x, 0, -1, 0, -1, 1, 2);
        x = Check.with(5, "NCO");
        int rule = x.rule(3, 2, 1);
        x.change(rule, 0, 1, 1, 0);
        x.change(rule, 0, 2, 1, 0);
        CHECK.due("round()", x.round(), 3);
        CHECK.dueReaction(x, 0, -1, 0, 1, 2, 3);
        CHECK.dueWord(x, 1, "1:1:");
        CHECK.dueWord(x, 3, "1:3:");
    }

    private static void onlySpeciesOfTheBeginning() {
        SpeciesRounds x = Check.with(5, "C", "H");
        rule(x, 3, 0, 0, 1);
        for (int hydrogens = 1; hydrogens <= 4; hydrogens++) {
            CHECK.due("round " + hydrogens, x.round(), 1);
            CHECK.due("species()", x.species(), 2 + hydrogens);
            CHECK.due("size()", x.size(1 + hydrogens), 1 + hydrogens);
            CHECK.due("reactions()", x.reactions(), hydrogens);
        }
        CHECK.due("a last round", x.round(), 0);
        CHECK.due("reactions()", x.reactions(), 4);
        CHECK.dueReaction(x, 0, 0, 1, -1, -1, 2);
        CHECK.dueReaction(x, 1, 1, 2, -1, -1, 3);
        CHECK.dueReaction(x, 2, 1, 3, -1, -1, 4);
        CHECK.dueReaction(x, 3, 1, 4, -1, -1, 5);
    }

    private static void twiceTheSame() {
        SpeciesRounds x = Check.with(5, "O", "H");
        rule(x, 0, 0, 0, 1);
        CHECK.due("round()", x.round(), 1);
        CHECK.due("reactions()", x.reactions(), 1);
        CHECK.dueReaction(x, 0, 1, 1, -1, -1, 2);
        rule(x, 0, 0, 1, 0);
        CHECK.due("and back", x.round(), 0);
        CHECK.due("reactions()", x.reactions(), 2);
        CHECK.dueReaction(x, 0, -1, 2, -1, 1, 1);
        CHECK.dueReaction(x, 1, 1, 1, -1, -1, 2);
    }

    private static void threeProducts() {
        SpeciesRounds x = Check.with(5, "C1CC1");
        int rule = x.rule(3, 3, 3);
        x.change(rule, 0, 1, 1, 0);
        x.change(rule, 0, 2, 1, 0);
        x.change(rule, 1, 2, 1, 0);
        CHECK.due("round()", x.round(), 1);
        CHECK.due("reactions()", x.reactions(), 1);
        CHECK.dueReaction(x, 0, -1, 0, 1, 1, 1);
        x = Check.with(5, "H", "HOH");
        rule = x.rule(0, 1, 0);
        x.change(rule, 0, 1, 1, 0);
        x.change(rule, 1, 2, 1, 0);
        CHECK.due("round()", x.round(), 1);
        CHECK.dueReaction(x, 0, -1, 1, 0, 0, 2);
    }

    /** A place whose orders stay makes its molecule a reactant and a product. */
    private static void onlookers() {
        SpeciesRounds x = Check.with(5, "HH", "O", "HO");
        int rule = x.rule(0, 0, 1);
        x.change(rule, 0, 1, 1, 0);
        CHECK.due("matches(0, 0, -1)", x.matches(rule, 0, -1), 0);
        CHECK.due("round()", x.round(), 1);
        CHECK.due("reactions()", x.reactions(), 2);
        CHECK.dueReaction(x, 0, 0, 1, 1, 3, 3);
        CHECK.dueReaction(x, 1, 0, 2, 2, 3, 3);
    }

    private static void productsThatAreTheReactants() {
        SpeciesRounds x = Check.with(5, "HH", "H", "HO");
        int rule = x.rule(0, 0, 0);
        x.change(rule, 0, 1, 1, 0);
        x.change(rule, 1, 2, 0, 1);
        CHECK.due("matches", x.matches(rule, 0, 1), 2);
        CHECK.due("round()", x.round(), 0);
        CHECK.due("reactions()", x.reactions(), 0);
        x = Check.with(5, "C=CC");
        rule = x.rule(3, 3, 3);
        x.change(rule, 0, 1, 2, 1);
        x.change(rule, 1, 2, 1, 2);
        CHECK.due("matches", x.matches(rule, 0, -1), 1);
        CHECK.due("round() of a shift", x.round(), 0);
        CHECK.due("reactions() of a shift", x.reactions(), 0);
    }

    private static void tooLarge() {
        // An end moves to the other chain (CC and two of four atoms), or all but an end (C and two of five).
        int[] newDue = {0, 3, 6};
        for (int cap = 3; cap <= 5; cap++) {
            SpeciesRounds moved = Check.with(cap, "CCC");
            int rule = moved.rule(3, 3, 3);
            moved.change(rule, 0, 1, 1, 0);
            moved.change(rule, 0, 2, 0, 1);
            CHECK.due("matches, whatever they yield", moved.matches(rule, 0, 0), 24);
            CHECK.due("round() at cap " + cap, moved.round(), newDue[cap - 3]);
            SpeciesRounds joined = Check.with(cap, "CCC");
            rule(joined, 3, 3, 0, 1);
            CHECK.due("six atoms at cap " + cap, joined.matches(0, 0, 0), 18);
            CHECK.due("round() of the ring alone", joined.round(), 1);
            CHECK.due("reactions()", joined.reactions(), 1);
        }
        SpeciesRounds x = Check.with(2, "HO", "H");
        rule(x, 0, 1, 0, 1);
        CHECK.due("cap 2", x.round(), 0);
        x = Check.with(3, "HO", "H");
        rule(x, 0, 1, 0, 1);
        CHECK.due("cap 3", x.round(), 1);
    }

    private static void tooManyBonds() {
        SpeciesRounds x = Check.with(5, "HH", "O=O", "N#N", "H");
        rule(x, 0, 0, 0, 1);
        rule(x, 1, 1, 2, 3);
        rule(x, 2, 2, 0, 1);
        CHECK.due("matches", x.matches(0, 0, 0) + x.matches(1, 1, -1) + x.matches(2, 2, 2), 8 + 2 + 8);
        CHECK.due("round()", x.round(), 0);
        CHECK.due("reactions()", x.reactions(), 1);
        CHECK.dueReaction(x, 0, 3, 3, -1, -1, 0);
    }

    private static void listKeepsItsOrder() {
        SpeciesRounds x = Check.with(5, "HO", "CC");
        rule(x, 3, 3, 1, 0);
        CHECK.due("round()", x.round(), 1);
        CHECK.dueReaction(x, 0, -1, 1, -1, 2, 2);
        x.change(0, 0, 1, 1, 2);
        rule(x, 0, 1, 1, 0);
        CHECK.due("round()", x.round(), 3);
        CHECK.due("what was met stays, rules or not", x.reactions(), 3);
        CHECK.dueReaction(x, 0, -1, 0, -1, 3, 4);
        CHECK.dueReaction(x, 1, -1, 1, -1, -1, 5);
        CHECK.dueReaction(x, 2, -1, 1, -1, 2, 2);
        CHECK.due("again", x.round(), 0);
        CHECK.due("each once", x.reactions(), 3);
    }

    private static void twelveSpecies() {
        String[] ten = {"HOH", "N", "C", "NN", "N=N", "N#N", "CC", "C=C", "C#C", "CN"};
        SpeciesRounds x = Check.with(5, ten);
        rule(x, 0, 1, 1, 0);
        CHECK.due("round() up to twelve", x.round(), 2);
        CHECK.due("species()", x.species(), 12);
        CHECK.due("round() beyond", x.round(), -1);
        CHECK.due("species()", x.species(), 12);
        CHECK.due("reactions()", x.reactions(), 1);
        CHECK.dueReaction(x, 0, -1, 0, -1, 10, 11);

        x = Check.with(5, ten);
        Check.enter(x, "C=N");
        rule(x, 0, 1, 1, 0);
        Check.type(x, "HO");
        CHECK.due("round() from eleven", x.round(), -1);
        CHECK.due("species()", x.species(), 11);
        CHECK.due("reactions()", x.reactions(), 0);
        CHECK.due("size(11)", x.size(11), -1);
        CHECK.due("matches(0, 11, -1)", x.matches(0, 11, -1), -1);
        CHECK.due("reaction(0, 0)", x.reaction(0, 0), -2);
        CHECK.due("the line is as it was", x.enter(), 11);
        CHECK.dueWord(x, 11, "2:01:1");
        CHECK.due("once more", x.round(), -1);
    }

    /** The first rule's reactions are met before the second one's species are too many. */
    private static void refusedLeavesNothing() {
        SpeciesRounds x = Check.with(5, "C=C", "CC", "HOH", "N", "C", "NN", "N=N", "N#N", "C#C", "CN", "C=N");
        rule(x, 3, 3, 2, 1);
        rule(x, 0, 1, 1, 0);
        CHECK.due("round()", x.round(), -1);
        CHECK.due("reactions()", x.reactions(), 0);
        x.change(0, 0, 1, 1, 3);
        x.change(1, 0, 1, 0, 0);
        CHECK.due("round() of what fits", x.round(), 0);
        CHECK.due("reactions()", x.reactions(), 1);
        CHECK.dueReaction(x, 0, -1, 1, -1, -1, 8);
        x.change(0, 0, 1, 2, 1);
        x.change(1, 0, 1, 1, 0);
        CHECK.due("round() refused with one listed", x.round(), -1);
        CHECK.due("reactions()", x.reactions(), 1);
        CHECK.dueReaction(x, 0, -1, 1, -1, -1, 8);
        CHECK.due("species()", x.species(), 11);
    }

    /** C-C, C=C and C#C turn into one another beside nine others: nine reactions for each turn. */
    private static void fortyReactions() {
        SpeciesRounds x = Check.with(5, NINE_WITH_H);
        Check.enter(x, "CC");
        Check.enter(x, "C=C");
        Check.enter(x, "C#C");
        x.rule(3, 3, 0);
        int[][] turns = {{1, 2}, {1, 3}, {2, 1}, {2, 3}};
        for (int k = 0; k < turns.length; k++) {
            x.change(0, 0, 1, turns[k][0], turns[k][1]);
            CHECK.due("round()", x.round(), 0);
            CHECK.due("reactions()", x.reactions(), 9 * (k + 1));
        }
        x.rule(3, 3, 1);
        x.change(1, 0, 1, 3, 1);
        CHECK.due("round() up to forty", x.round(), 0);
        CHECK.due("reactions()", x.reactions(), 40);
        CHECK.due("round() with the same forty", x.round(), 0);
        CHECK.dueReaction(x, 0, 0, 9, -1, 0, 10);
        CHECK.dueReaction(x, 39, 8, 11, -1, 8, 9);
        rule(x, 3, 3, 3, 2);
        CHECK.due("round() to forty-one", x.round(), -1);
        CHECK.due("reactions()", x.reactions(), 40);
        CHECK.dueReaction(x, 0, 0, 9, -1, 0, 10);
        CHECK.dueReaction(x, 39, 8, 11, -1, 8, 9);
        CHECK.due("species()", x.species(), 12);
        x.change(2, 0, 1, 3, 3);
        CHECK.due("round() when it fits again", x.round(), 0);
    }

    private static void noSuch() {
        SpeciesRounds x = Check.with(5, "HH");
        CHECK.due("reaction of none", x.reaction(0, 0), -2);
        rule(x, 0, 0, 1, 0);
        CHECK.due("round()", x.round(), 1);
        int[] far = {Integer.MIN_VALUE, -1, 5, 40, Integer.MAX_VALUE};
        for (int f : far) {
            CHECK.due("reaction(" + f + ", 0)", x.reaction(f, 0), -2);
            CHECK.due("reaction(0, " + f + ")", x.reaction(0, f), -2);
        }
        CHECK.due("reaction(1, 0)", x.reaction(1, 0), -2);
        CHECK.due("reaction(0, 4)", x.reaction(0, 4), 1);
        CHECK.due("reaction(0, 0)", x.reaction(0, 0), -1);
    }
}
