/** The boundary cases of rounds and reactions, promises 12 to 14, a method for each sentence that names one. */
public final class RoundEdgeTest {
    private static final Check CHECK = new Check();
    /** Ten that no rule on H and O but water's changes; water falls into two more. */
    private static final String[] TEN = {"HOH", "N", "C", "NN", "N=N", "N#N", "CC", "C=C", "C#C", "CN"};
    /** Eight with an H, seven of them with an O; then the three that turn into one another. */
    private static final String[] ELEVEN = {"HH", "HO", "HOH", "HOO", "HOOH", "HON", "HN=O", "HOOO", "CC", "C=C", "C#C"};

    public static void main(String[] args) {
        ordersAfter();
        justFullOrOneMore();
        eachPlaceIsLookedAt();
        upToCap();
        tooLargeYieldsNothing();
        theProducts();
        oneOrTwoReactants();
        oneToThreeProducts();
        theSameTwiceOrThreeTimes();
        productsJustTheReactants();
        allMatchesOfAllRules();
        inTheTableWhenItBegins();
        allProducts();
        behindTheOthers();
        eachOnce();
        twelveAndNoMore();
        threeNewOnesAtOnce();
        fortyAndNoMore();
        fortyWithANewSpecies();
        leastFirst();
        minusOneInFront();
        lessNumberComesFirst();
        howManyAreNew();
        nothingToDo();
        refusedRoundLeavesAll();
        howManyReactions();
        numberAtPlace();
        noSuchReaction();
        noSuchPlace();
        CHECK.end();
    }

    /** A rule of two places with its orders. */
    private static void two(SpeciesRounds x, int a, int b, int before, int after) {
        int rule = x.rule(a, b, -1);
        x.change(rule, 0, 1, before, after);
    }

    private static void ordersAfter() {
        CHECK.says("It YIELDS what the mixture becomes when between any two of these atoms there is the order after instead");
        for (int before = 1; before <= 3; before++) {
            for (int after = 0; after <= 3; after++) {
                SpeciesRounds x = Check.with(2, "C" + "-=#".charAt(before - 1) + "C");
                two(x, 3, 3, before, after);
                CHECK.due(before + " to " + after + ": round()", x.round(), before == after ? 0 : 1);
                CHECK.dueWord(x, x.species() - 1, after == 0 ? "1:3:" : "2:33:" + after);
            }
        }
        SpeciesRounds x = Check.with(5, "ONC");
        int rule = x.rule(1, 2, 3);
        x.change(rule, 0, 1, 1, 0);
        x.change(rule, 0, 2, 0, 2);
        x.change(rule, 1, 2, 1, 1);
        CHECK.due("round(): O moves from N to C", x.round(), 1);
        CHECK.dueWord(x, 1, "3:123:021");
        CHECK.dueText("reactions", Seen.reactions(x), "-1 0 -1 -1 1; -2");
    }

    private static void justFullOrOneMore() {
        CHECK.says("When an atom would have more than it can have then [..] the match yields nothing");
        dueYield("H", 0, 0, 0, 1, "2:00:1");
        dueYield("HH", 0, 0, 0, 1, null);
        dueYield("HH", 0, 0, 1, 2, null);
        dueYield("OO", 1, 1, 1, 2, "2:11:2");
        dueYield("OO", 1, 1, 1, 3, null);
        dueYield("OOO", 1, 1, 1, 2, null);
        dueYield("NN", 2, 2, 1, 3, "2:22:3");
        dueYield("NNN", 2, 2, 1, 2, "3:222:012");
        dueYield("NNN", 2, 2, 1, 3, null);
        dueYield("N=NN", 2, 2, 1, 2, null);
        dueYield("CC", 3, 3, 1, 3, "2:33:3");
        dueYield("CCC", 3, 3, 1, 3, "3:333:013");
        dueYield("C=CC", 3, 3, 1, 2, "3:333:022");
        dueYield("C=CC", 3, 3, 1, 3, null);
        dueYield("C#CC", 3, 3, 1, 2, null);
        dueYield("CC(C)(C)C", 3, 3, 1, 2, null);
    }

    /** What one species becomes: the new one's word, or null when there is none. */
    private static void dueYield(String text, int a, int b, int before, int after, String word) {
        SpeciesRounds x = Check.with(5, text);
        two(x, a, b, before, after);
        String what = text + ", " + before + " to " + after;
        CHECK.due(what + ": matches", x.matches(0, 0, -1) + x.matches(0, 0, 0) > 0, true);
        CHECK.due(what + ": round()", x.round(), word == null ? 0 : 1);
        CHECK.due(what + ": reactions()", x.reactions(), word == null ? 0 : 1);
        if (word != null) {
            CHECK.dueWord(x, 1, word);
        }
    }

    private static void eachPlaceIsLookedAt() {
        CHECK.says("When an atom would have more than it can have then [..] the match yields nothing");
        String[] texts = {"HOC", "OC"};
        for (int k = 0; k <= 1; k++) {
            SpeciesRounds x = Check.with(5, texts[k]);
            two(x, 1, 3, 1, 2);
            CHECK.due(texts[k] + ": the first place", x.round(), k);
            x = Check.with(5, texts[k]);
            two(x, 3, 1, 1, 2);
            CHECK.due(texts[k] + ": the second place", x.round(), k);
        }
        String[] hydrogens = {"HH", "H"};
        for (int k = 0; k <= 1; k++) {
            SpeciesRounds x = Check.with(5, "CC", hydrogens[k]);
            int rule = x.rule(3, 3, 0);
            x.change(rule, 0, 1, 1, 2);
            x.change(rule, 1, 2, 0, 1);
            CHECK.due(hydrogens[k] + ": matches", x.matches(rule, 0, 1), k == 0 ? 4 : 2);
            CHECK.due(hydrogens[k] + ": the third place", x.round(), k);
        }
    }

    private static void upToCap() {
        CHECK.says("or the atoms that are joined then make a molecule of more than CAP atoms");
        for (int cap = 2; cap <= 5; cap++) {
            SpeciesRounds x = Check.with(cap, "NCCCC".substring(0, cap - 1), "O");
            two(x, 2, 1, 0, 1);
            CHECK.due("cap " + cap + ": round() to CAP atoms", x.round(), 1);
            CHECK.due("cap " + cap + ": size(2)", x.size(2), cap);
            CHECK.due("cap " + cap + ": reactions()", x.reactions(), 1);
            x = Check.with(cap, "NCCCC".substring(0, cap), "O");
            two(x, 2, 1, 0, 1);
            CHECK.due("cap " + cap + ": matches", x.matches(0, 0, 1), 1);
            CHECK.due("cap " + cap + ": round() to one more", x.round(), 0);
            CHECK.due("cap " + cap + ": reactions()", x.reactions(), 0);
            x = Check.with(cap, "NCCCC".substring(0, cap), "OCCCC".substring(0, cap));
            two(x, 2, 1, 0, 1);
            CHECK.due("cap " + cap + ": round() to twice as many", x.round(), 0);
        }
    }

    private static void tooLargeYieldsNothing() {
        CHECK.says("the match yields nothing");
        for (int cap = 3; cap <= 5; cap++) {
            // H leaves HOC and the rest goes to NCC: one piece is small, the other has five atoms.
            SpeciesRounds x = Check.with(cap, "HOC", "NCC");
            int rule = x.rule(0, 1, 2);
            x.change(rule, 0, 1, 1, 0);
            x.change(rule, 1, 2, 0, 1);
            CHECK.due("cap " + cap + ": matches", x.matches(rule, 0, 1), 1);
            CHECK.due("cap " + cap + ": round()", x.round(), cap == 5 ? 2 : 0);
            CHECK.due("cap " + cap + ": reactions()", x.reactions(), cap == 5 ? 1 : 0);
        }
        // H leaves water, but the O would have too much.
        SpeciesRounds x = Check.with(5, "HOH", "C");
        int rule = x.rule(0, 1, 3);
        x.change(rule, 0, 1, 1, 0);
        x.change(rule, 1, 2, 0, 2);
        CHECK.due("matches", x.matches(rule, 0, 1), 2);
        CHECK.due("round()", x.round(), 0);
        CHECK.due("reactions()", x.reactions(), 0);
    }

    private static void theProducts() {
        CHECK.says("otherwise the molecules that it yields are the PRODUCTS");
        SpeciesRounds x = Check.with(5, "HC", "OO");
        int rule = x.rule(0, 3, 1);
        x.change(rule, 0, 1, 1, 0);
        x.change(rule, 1, 2, 0, 1);
        CHECK.due("matches", x.matches(rule, 0, 1), 2);
        CHECK.due("round(): C leaves H for one of the O", x.round(), 2);
        CHECK.dueWord(x, 2, "1:0:");
        CHECK.dueWord(x, 3, "3:113:101");
        CHECK.dueText("reactions", Seen.reactions(x), "0 1 -1 2 3; -2");
        // With a CAP of two the larger one is no molecule, and the H does not come alone.
        x = Check.with(2, "HC", "OO");
        rule = x.rule(0, 3, 1);
        x.change(rule, 0, 1, 1, 0);
        x.change(rule, 1, 2, 0, 1);
        CHECK.due("matches", x.matches(rule, 0, 1), 2);
        CHECK.due("round(): nothing, not even the H", x.round(), 0);
        CHECK.due("reactions()", x.reactions(), 0);
    }

    private static void oneOrTwoReactants() {
        CHECK.says("A REACTION is one or two species, the REACTANTS");
        SpeciesRounds x = Check.with(5, "CC");
        two(x, 3, 3, 1, 0);
        x.round();
        CHECK.dueText("one", Seen.reactions(x), "-1 0 -1 1 1; -2");
        x = Check.with(5, "O", "C");
        two(x, 3, 1, 0, 1);
        x.round();
        CHECK.dueText("two", Seen.reactions(x), "0 1 -1 -1 2; -2");
        x = Check.with(5, "O", "C");
        two(x, 3, 3, 0, 1);
        x.round();
        CHECK.dueText("twice the same", Seen.reactions(x), "1 1 -1 -1 2; -2");
    }

    private static void oneToThreeProducts() {
        CHECK.says("and one to three, the products, in any order each");
        SpeciesRounds x = Check.with(5, "O=C");
        two(x, 1, 3, 2, 1);
        x.round();
        CHECK.dueText("one", Seen.reactions(x), "-1 0 -1 -1 1; -2");
        x = Check.with(5, "O=C");
        two(x, 1, 3, 2, 0);
        x.round();
        CHECK.dueText("two", Seen.reactions(x), "-1 0 -1 1 2; -2");
        x = Check.with(5, "OCN");
        int rule = x.rule(2, 3, 1);
        x.change(rule, 0, 1, 1, 0);
        x.change(rule, 1, 2, 1, 0);
        CHECK.due("round()", x.round(), 3);
        CHECK.dueText("three", Seen.reactions(x), "-1 0 1 2 3; -2");
        x = Check.with(5, "HOH", "C");
        rule = x.rule(0, 1, 3);
        x.change(rule, 0, 1, 1, 0);
        CHECK.due("round()", x.round(), 2);
        CHECK.dueText("three of two", Seen.reactions(x), "0 1 1 2 3; -2");
        // The first and the third place stay in one piece, the second one leaves.
        x = Check.with(5, "HCC");
        rule = x.rule(3, 0, 3);
        x.change(rule, 0, 1, 1, 0);
        x.change(rule, 0, 2, 1, 1);
        CHECK.due("round()", x.round(), 2);
        CHECK.dueText("two of three places", Seen.reactions(x), "-1 0 -1 1 2; -2");
    }

    private static void theSameTwiceOrThreeTimes() {
        CHECK.says("the same one may stand there twice or three times");
        SpeciesRounds x = Check.with(5, "C1CC1");
        int rule = x.rule(3, 3, 3);
        x.change(rule, 0, 1, 1, 0);
        x.change(rule, 0, 2, 1, 0);
        x.change(rule, 1, 2, 1, 0);
        CHECK.due("round()", x.round(), 1);
        CHECK.dueText("three times", Seen.reactions(x), "-1 0 1 1 1; -2");
        x = Check.with(5, "OO", "N");
        rule = x.rule(1, 1, 2);
        x.change(rule, 0, 1, 1, 0);
        CHECK.due("round()", x.round(), 1);
        CHECK.dueText("twice, behind another", Seen.reactions(x), "0 1 1 2 2; -2");
        x = Check.with(5, "N", "O", "OO");
        rule = x.rule(1, 1, 2);
        x.change(rule, 0, 1, 1, 0);
        CHECK.due("round()", x.round(), 0);
        CHECK.dueText("twice, and a reactant", Seen.reactions(x), "0 2 0 1 1; -2");
    }

    private static void productsJustTheReactants() {
        CHECK.says("if the products are not just the reactants");
        SpeciesRounds x = Check.with(5, "C=CC");
        int rule = x.rule(3, 3, 3);
        x.change(rule, 0, 1, 2, 1);
        x.change(rule, 1, 2, 1, 2);
        CHECK.due("matches", x.matches(rule, 0, -1), 1);
        CHECK.due("one becomes itself: round()", x.round(), 0);
        CHECK.due("one becomes itself: reactions()", x.reactions(), 0);
        x = Check.with(5, "HC", "H");
        rule = x.rule(0, 3, 0);
        x.change(rule, 0, 1, 1, 0);
        x.change(rule, 1, 2, 0, 1);
        CHECK.due("matches", x.matches(rule, 0, 1), 1);
        CHECK.due("two become themselves: round()", x.round(), 0);
        CHECK.due("two become themselves: reactions()", x.reactions(), 0);
        x = Check.with(5, "HH", "H");
        rule = x.rule(0, 0, 0);
        x.change(rule, 0, 1, 1, 0);
        x.change(rule, 1, 2, 0, 1);
        CHECK.due("matches", x.matches(rule, 1, 0), 2);
        CHECK.due("two become themselves: round()", x.round(), 0);
        CHECK.due("two become themselves: reactions()", x.reactions(), 0);
        // Of two, one stays and one changes; or both change into one another's kind.
        x = Check.with(5, "CC", "C=C", "H");
        rule = x.rule(3, 3, 0);
        x.change(rule, 0, 1, 1, 2);
        CHECK.due("one of two changes: round()", x.round(), 0);
        CHECK.dueText("reactions", Seen.reactions(x), "0 2 -1 1 2; -2");
    }

    private static void allMatchesOfAllRules() {
        CHECK.says("A ROUND takes all matches of all rules in all mixtures of species");
        SpeciesRounds x = Check.with(5, "N=CCC");
        two(x, 3, 3, 1, 0);
        CHECK.due("round() of two matches", x.round(), 4);
        CHECK.dueText("each match counts", Seen.reactions(x), "-1 0 -1 1 4; -1 0 -1 2 3; -2");
        x = Check.with(5, "C#C");
        two(x, 3, 3, 3, 2);
        two(x, 3, 3, 3, 1);
        two(x, 3, 3, 3, 0);
        CHECK.due("round() of three rules", x.round(), 3);
        CHECK.dueText("each rule counts", Seen.reactions(x), "-1 0 -1 -1 2; -1 0 -1 -1 3; -1 0 -1 1 1; -2");
        x = Check.with(5, Check.TWELVE);
        two(x, 2, 2, 2, 1);
        CHECK.due("round() of the last species", x.round(), 0);
        CHECK.dueText("alone", Seen.reactions(x), "-1 11 -1 -1 10; -2");
        x = Check.with(5, Check.TWELVE);
        x.change(x.rule(2, 2, 0), 0, 1, 2, 1);
        CHECK.due("round() of the last species with others", x.round(), 0);
        CHECK.dueText("with the first one and others", Seen.reactions(x),
                "0 11 -1 0 10; 4 11 -1 4 10; 5 11 -1 5 10; 6 11 -1 6 10; 7 11 -1 7 10; -2");
        x = Check.with(5, Check.TWELVE);
        x.change(x.rule(2, 2, 2), 0, 1, 2, 1);
        CHECK.due("round() of the last species twice", x.round(), 0);
        CHECK.dueText("twice, and with the one before it", Seen.reactions(x),
                "2 11 -1 2 10; 6 11 -1 6 10; 10 11 -1 10 10; 11 11 -1 10 11; -2");
    }

    private static void inTheTableWhenItBegins() {
        CHECK.says("that are in the table when it begins");
        SpeciesRounds x = Check.with(5, "C", "H");
        two(x, 3, 0, 0, 1);
        for (int round = 1; round <= 4; round++) {
            CHECK.due("round " + round, x.round(), 1);
            CHECK.due("species() after round " + round, x.species(), 2 + round);
            CHECK.due("reactions() after round " + round, x.reactions(), round);
            CHECK.due("size() of the new one", x.size(1 + round), 1 + round);
        }
        CHECK.due("round 5", x.round(), 0);
    }

    private static void allProducts() {
        CHECK.says("All products are put into the table");
        SpeciesRounds x = Check.with(5, "HOO", "CN");
        two(x, 1, 1, 1, 0);
        two(x, 2, 3, 1, 0);
        CHECK.due("round(): two of each", x.round(), 4);
        CHECK.dueText("species", Seen.species(x), "3:011:011 2:23:1 1:1: 1:2: 1:3: 2:01:1 -1");
        x = Check.with(5, "CN", "N");
        two(x, 2, 3, 1, 0);
        CHECK.due("round(): one of two is there", x.round(), 1);
        CHECK.dueText("species", Seen.species(x), "2:23:1 1:2: 1:3: -1");
    }

    private static void behindTheOthers() {
        CHECK.says("those that are not in it yet behind the others, in the order of their keys, the least first");
        SpeciesRounds x = Check.with(5, "CC", "O");
        two(x, 3, 3, 1, 0);
        CHECK.due("round()", x.round(), 1);
        CHECK.dueText("behind, though its key is less", Seen.species(x), "2:33:1 1:1: 1:3: -1");
        x = Check.with(5, "OCN", "C");
        int rule = x.rule(3, 2, 1);
        x.change(rule, 0, 1, 1, 0);
        x.change(rule, 0, 2, 1, 0);
        CHECK.due("round()", x.round(), 2);
        CHECK.dueText("the least first", Seen.species(x), "3:123:011 1:3: 1:1: 1:2: -1");
        CHECK.dueText("reactions", Seen.reactions(x), "-1 0 1 2 3; -2");
    }

    private static void eachOnce() {
        CHECK.says("all reactions are put into the LIST, each once");
        SpeciesRounds x = Check.with(5, "HOH");
        two(x, 0, 1, 1, 0);
        two(x, 1, 0, 1, 0);
        CHECK.due("matches", x.matches(0, 0, -1), 2);
        CHECK.due("round()", x.round(), 2);
        CHECK.due("two matches of two rules, one reaction", x.reactions(), 1);
        CHECK.due("round()", x.round(), 1);
        CHECK.due("reactions()", x.reactions(), 2);
        CHECK.due("round()", x.round(), 0);
        CHECK.dueText("met again, not listed again", Seen.reactions(x), "-1 0 -1 1 2; -1 2 -1 1 3; -2");
        // The same mixture the other way round is the same one.
        x = Check.with(5, "H", "O");
        two(x, 0, 1, 0, 1);
        two(x, 1, 0, 0, 1);
        CHECK.due("round()", x.round(), 1);
        CHECK.dueText("H and O, O and H", Seen.reactions(x), "0 1 -1 -1 2; -2");
    }

    private static SpeciesRounds splitter(String... more) {
        SpeciesRounds x = Check.with(5, TEN);
        for (String text : more) {
            Check.enter(x, text);
        }
        two(x, 0, 1, 1, 0);
        return x;
    }

    private static void twelveAndNoMore() {
        CHECK.says("When the table would have more than twelve species then [..] the round is refused");
        SpeciesRounds x = splitter();
        CHECK.due("ten and two: round()", x.round(), 2);
        CHECK.due("ten and two: species()", x.species(), 12);
        CHECK.due("ten and two: reactions()", x.reactions(), 1);
        CHECK.due("twelve and one: round()", x.round(), -1);
        CHECK.due("twelve and one: species()", x.species(), 12);
        x = splitter("H");
        CHECK.due("eleven and one: round()", x.round(), 1);
        CHECK.due("eleven and one: species()", x.species(), 12);
        x = splitter("C=N");
        CHECK.due("eleven and two: round()", x.round(), -1);
        CHECK.due("eleven and two: species()", x.species(), 11);
        CHECK.due("eleven and two: reactions()", x.reactions(), 0);
        x = splitter("H", "C=N");
        CHECK.due("twelve and one: round()", x.round(), -1);
        CHECK.due("twelve and one: species()", x.species(), 12);
        x = Check.with(5, Check.TWELVE);
        two(x, 1, 1, 2, 1);
        CHECK.due("twelve and none: round()", x.round(), 0);
        CHECK.due("twelve and none: reactions()", x.reactions(), 1);
        x = Check.with(5, "C1CC1C", "HOOH", "N", "O", "C", "H");
        x.change(x.rule(3, 3, -1), 0, 1, 0, 1);
        x.change(x.rule(2, 3, -1), 0, 1, 0, 1);
        x.change(x.rule(1, 3, -1), 0, 1, 0, 1);
        CHECK.due("six and many: round()", x.round(), -1);
        CHECK.due("six and many: species()", x.species(), 6);
        CHECK.due("six and many: reactions()", x.reactions(), 0);
    }

    private static void threeNewOnesAtOnce() {
        CHECK.says("When the table would have more than twelve species then [..] the round is refused");
        String[] nine = {"OCN", "HH", "HO", "HN", "HC", "OO", "NN", "CC", "O=O"};
        SpeciesRounds x = Check.with(5, nine);
        threeApart(x);
        CHECK.due("nine and three: round()", x.round(), 3);
        CHECK.due("nine and three: species()", x.species(), 12);
        CHECK.dueText("nine and three: reactions", Seen.reactions(x), "-1 0 9 10 11; -2");
        x = Check.with(5, nine);
        Check.enter(x, "N=N");
        threeApart(x);
        CHECK.due("ten and three: round()", x.round(), -1);
        CHECK.due("ten and three: species()", x.species(), 10);
        CHECK.due("ten and three: reactions()", x.reactions(), 0);
        CHECK.due("enter() then", Check.enter(x, "C"), 10);
        CHECK.due("eleven and two: round()", x.round(), -1);
        CHECK.due("enter() then", Check.enter(x, "O"), 11);
        CHECK.due("twelve and one: round()", x.round(), -1);
        CHECK.due("twelve and one: size(11)", x.size(11), 1);
        CHECK.due("twelve and one: atom(11, 0)", x.atom(11, 0), 1);
    }

    private static void threeApart(SpeciesRounds x) {
        int rule = x.rule(1, 3, 2);
        x.change(rule, 0, 1, 1, 0);
        x.change(rule, 1, 2, 1, 0);
    }

    /** Eleven species and 39 reactions, or 40 when the first species has an O too. */
    private static SpeciesRounds turned(String first) {
        SpeciesRounds x = Check.with(5, first);
        for (int s = 1; s < ELEVEN.length; s++) {
            Check.enter(x, ELEVEN[s]);
        }
        x.rule(3, 3, 0);
        int[][] turns = {{1, 2}, {1, 3}, {2, 1}, {2, 3}};
        for (int[] turn : turns) {
            x.change(0, 0, 1, turn[0], turn[1]);
            x.round();
        }
        x.rule(3, 3, 1);
        x.change(1, 0, 1, 3, 1);
        x.round();
        return x;
    }

    private static void fortyAndNoMore() {
        CHECK.says("or the list more than 40 reactions, the round is refused");
        SpeciesRounds x = turned("HH");
        CHECK.due("reactions()", x.reactions(), 39);
        two(x, 3, 3, 3, 2);
        CHECK.due("39 and one: round()", x.round(), 0);
        CHECK.due("39 and one: reactions()", x.reactions(), 40);
        CHECK.due("40 and none: round()", x.round(), 0);
        x.change(2, 0, 1, 3, 1);
        CHECK.due("40 and one: round()", x.round(), -1);
        CHECK.due("40 and one: reactions()", x.reactions(), 40);
        x.change(2, 0, 1, 3, 3);
        CHECK.due("40 and none once more: round()", x.round(), 0);
        x = turned("HNOH");
        CHECK.due("reactions()", x.reactions(), 40);
        two(x, 3, 3, 3, 2);
        CHECK.due("40 and one: round()", x.round(), -1);
        CHECK.due("40 and one: reactions()", x.reactions(), 40);
        x = turned("HH");
        two(x, 3, 3, 3, 2);
        x.change(1, 0, 1, 1, 2);
        CHECK.due("39, one, and those that are there: round()", x.round(), 0);
        CHECK.due("reactions()", x.reactions(), 40);
        x = turned("HH");
        x.change(1, 0, 1, 3, 2);
        CHECK.due("39 and seven: round()", x.round(), -1);
        CHECK.due("39 and seven: reactions()", x.reactions(), 39);
    }

    private static void fortyWithANewSpecies() {
        CHECK.says("or the list more than 40 reactions, the round is refused");
        SpeciesRounds x = turned("HH");
        two(x, 3, 3, 1, 0);
        CHECK.due("39 and one: round()", x.round(), 1);
        CHECK.due("39 and one: species()", x.species(), 12);
        CHECK.due("39 and one: reactions()", x.reactions(), 40);
        x = turned("HNOH");
        two(x, 3, 3, 1, 0);
        CHECK.due("40 and one: round()", x.round(), -1);
        CHECK.due("40 and one: species()", x.species(), 11);
        CHECK.due("40 and one: size(11)", x.size(11), -1);
        CHECK.due("40 and one: reactions()", x.reactions(), 40);
        CHECK.due("40 and one: enter() of C", Check.enter(x, "C"), 11);
    }

    private static void leastFirst() {
        CHECK.says("a reaction is written as five numbers, the two reactants, the least first, and the three products "
                + "likewise");
        SpeciesRounds x = Check.with(5, "O", "C");
        two(x, 3, 1, 0, 1);
        x.round();
        CHECK.dueText("the rule names the later one first", Seen.reactions(x), "0 1 -1 -1 2; -2");
        x = Check.with(5, "C", "CO");
        two(x, 1, 3, 1, 0);
        x.round();
        CHECK.dueText("the new one has the less key", Seen.reactions(x), "-1 1 -1 0 2; -2");
        x = Check.with(5, "N", "OCN", "O");
        int rule = x.rule(3, 1, 2);
        x.change(rule, 0, 1, 1, 0);
        x.change(rule, 0, 2, 1, 0);
        x.round();
        CHECK.dueText("two old ones and a new one", Seen.reactions(x), "-1 1 0 2 3; -2");
    }

    private static void minusOneInFront() {
        CHECK.says("with -1 in front for each that is missing");
        SpeciesRounds x = Check.with(5, "C=C");
        two(x, 3, 3, 2, 1);
        x.round();
        CHECK.dueText("one reactant, one product", Seen.reactions(x), "-1 0 -1 -1 1; -2");
        x = Check.with(5, "C=C");
        two(x, 3, 3, 2, 0);
        x.round();
        CHECK.dueText("one reactant, two products", Seen.reactions(x), "-1 0 -1 1 1; -2");
        x = Check.with(5, "C");
        two(x, 3, 3, 0, 1);
        x.round();
        CHECK.due("two reactants, one product", Seen.reactions(x).startsWith("0 0 -1 -1 1; "), true);
        x = Check.with(5, "C=C", "H");
        x.change(x.rule(3, 3, 0), 0, 1, 2, 1);
        x.round();
        CHECK.dueText("two reactants, two products", Seen.reactions(x), "0 1 -1 1 2; -2");
        x = Check.with(5, "C=C", "H");
        x.change(x.rule(3, 3, 0), 0, 1, 2, 0);
        x.round();
        CHECK.dueText("two reactants, three products", Seen.reactions(x), "0 1 1 2 2; -2");
    }

    private static void lessNumberComesFirst() {
        CHECK.says("the reaction with the less number at the first place where two differ comes first");
        SpeciesRounds x = Check.with(3, "C1CC1");
        two(x, 3, 3, 1, 0);
        for (int rule = 1; rule <= 2; rule++) {
            x.rule(3, 3, 3);
            x.change(rule, 0, 1, 1, 0);
            x.change(rule, 0, 2, 1, 0);
            x.change(rule, 1, 2, 1, rule - 1);
        }
        CHECK.due("round()", x.round(), 3);
        String ring = "-1 0 -1 -1 3; -1 0 -1 1 2; -1 0 1 1 1; ";
        CHECK.dueText("places 2, 3 and 4", Seen.reactions(x), ring + "-2");
        CHECK.due("round()", x.round(), 0);
        CHECK.dueText("place 1", Seen.reactions(x), ring + "-1 2 -1 1 1; -1 3 -1 1 2; -2");
        x.change(0, 0, 1, 0, 1);
        CHECK.due("round()", x.round(), 0);
        CHECK.dueText("place 0, and one between others", Seen.reactions(x),
                ring + "-1 2 -1 1 1; -1 3 -1 -1 0; -1 3 -1 1 2; 1 1 -1 -1 2; 1 2 -1 -1 3; -2");
    }

    private static void howManyAreNew() {
        CHECK.says("Answers how many species are new");
        String[] texts = {"HH", "CC", "CN", "OCN"};
        int[] due = {0, 1, 2, 3};
        for (int k = 0; k < texts.length; k++) {
            SpeciesRounds x = Check.with(5, texts[k]);
            two(x, 3, 3, 1, 0);
            two(x, 2, 3, 1, 0);
            if (k == 3) {
                threeApart(x);
                x.change(1, 0, 1, 3, 0);
            }
            CHECK.due(texts[k] + ": round()", x.round(), due[k]);
            CHECK.due(texts[k] + ": species()", x.species(), 1 + due[k]);
        }
        SpeciesRounds x = Check.with(5, "CC", "C");
        two(x, 3, 3, 1, 0);
        CHECK.due("only a reaction is new: round()", x.round(), 0);
        CHECK.due("only a reaction is new: reactions()", x.reactions(), 1);
    }

    private static void nothingToDo() {
        CHECK.says("Answers how many species are new; -1, refused");
        SpeciesRounds x = new SpeciesRounds(5);
        CHECK.due("no species, no rules", x.round(), 0);
        two(x, 3, 3, 0, 1);
        CHECK.due("no species", x.round(), 0);
        x = Check.with(5, "CC");
        CHECK.due("no rules", x.round(), 0);
        x.rule(3, 3, -1);
        CHECK.due("a rule without changes", x.round(), 0);
        CHECK.due("species()", x.species(), 1);
        CHECK.due("reactions()", x.reactions(), 0);
        x = Check.with(5, Check.TWELVE);
        CHECK.due("a full table, no rules", x.round(), 0);
    }

    private static void refusedRoundLeavesAll() {
        CHECK.says("A call that is refused changes nothing but the line");
        for (int tries = 1; tries <= 2; tries++) {
            int refused = tries;
            CHECK.dueText("table full, " + tries, Seen.of(() -> tableFull(refused)), Seen.of(() -> tableFull(0)));
            CHECK.dueText("list full, " + tries, Seen.of(() -> listFull(refused)), Seen.of(() -> listFull(0)));
        }
        // What the refused rounds had met does not come up in a later round that is not refused.
        SpeciesRounds x = tableFull(2);
        x.change(1, 0, 1, 1, 1);
        CHECK.due("round() after refused ones", x.round(), 0);
        CHECK.dueText("its reactions", Seen.reactions(x), "-1 0 -1 -1 1; -2");
        x = tableFull(2);
        x.change(0, 0, 1, 2, 2);
        x.change(1, 0, 1, 1, 1);
        CHECK.due("round() of idle rules after refused ones", x.round(), 0);
        CHECK.due("reactions()", x.reactions(), 0);
        x = listFull(2);
        x.change(2, 0, 1, 0, 0);
        CHECK.due("round() after refused ones", x.round(), 0);
        CHECK.due("reactions()", x.reactions(), 40);
        CHECK.due("species()", x.species(), 11);
    }

    /** The first rule's reaction is met before the second one's species are too many. */
    private static SpeciesRounds tableFull(int refused) {
        SpeciesRounds x = Check.with(5, "C=C", "CC", "HOH", "N", "C", "NN", "N=N", "N#N", "C#C", "CN", "C=N");
        two(x, 3, 3, 2, 1);
        two(x, 0, 1, 1, 0);
        return refuse(x, refused);
    }

    private static SpeciesRounds listFull(int refused) {
        SpeciesRounds x = turned("HNOH");
        two(x, 3, 3, 1, 0);
        return refuse(x, refused);
    }

    private static SpeciesRounds refuse(SpeciesRounds x, int rounds) {
        Check.type(x, "C(=");
        for (int k = 0; k < rounds; k++) {
            CHECK.due("refused round()", x.round(), -1);
        }
        return x;
    }

    private static void howManyReactions() {
        CHECK.says("How many reactions the list has");
        CHECK.due("of a new object", new SpeciesRounds(5).reactions(), 0);
        CHECK.due("without rules", Check.with(5, "CC").reactions(), 0);
        SpeciesRounds x = Check.with(5, "CC");
        two(x, 3, 3, 1, 0);
        CHECK.due("before the round", x.reactions(), 0);
        x.round();
        CHECK.due("after the round", x.reactions(), 1);
        CHECK.due("39", turned("HH").reactions(), 39);
        CHECK.due("40", turned("HNOH").reactions(), 40);
    }

    private static void numberAtPlace() {
        CHECK.says("Of reaction i in the list the number written at place k (0 .. 4)");
        SpeciesRounds x = turned("HNOH");
        int[][] first = {{0, 0, 8, -1, 0, 9}, {1, 0, 8, -1, 0, 10}, {2, 0, 9, -1, 0, 8}, {3, 0, 9, -1, 0, 10},
            {4, 0, 10, -1, 0, 8}, {5, 1, 8, -1, 1, 9}, {39, 7, 10, -1, 7, 8}};
        for (int[] due : first) {
            for (int k = 0; k < 5; k++) {
                CHECK.due("reaction(" + due[0] + ", " + k + ")", x.reaction(due[0], k), due[1 + k]);
            }
        }
        x = Check.with(5, "N", "OCN", "O");
        threeApart(x);
        x.round();
        int[] due = {-1, 1, 0, 2, 3};
        for (int k = 0; k < 5; k++) {
            CHECK.due("reaction(0, " + k + ")", x.reaction(0, k), due[k]);
        }
    }

    private static void noSuchReaction() {
        CHECK.says("-2 when there is no such reaction or place");
        SpeciesRounds x = Check.with(5, "CC");
        two(x, 3, 3, 1, 0);
        for (int k = 0; k < 5; k++) {
            CHECK.due("reaction(0, " + k + ") of none", x.reaction(0, k), -2);
            CHECK.due("reaction(-1, " + k + ") of none", x.reaction(-1, k), -2);
        }
        x.round();
        for (int k = 0; k < 5; k++) {
            CHECK.due("reaction(0, " + k + ")", x.reaction(0, k) > -2, true);
            CHECK.due("reaction(1, " + k + ")", x.reaction(1, k), -2);
            CHECK.due("reaction(-1, " + k + ")", x.reaction(-1, k), -2);
        }
        SpeciesRounds full = turned("HNOH");
        CHECK.due("reaction(39, 0)", full.reaction(39, 0), 7);
        CHECK.due("reaction(40, 0)", full.reaction(40, 0), -2);
        CHECK.due("reaction(41, 4)", full.reaction(41, 4), -2);
        CHECK.due("reaction(39, 0) of 39", turned("HH").reaction(39, 0), -2);
        for (int far : Check.FAR) {
            CHECK.due("reaction(" + far + ", 0)", full.reaction(far, 0), -2);
            CHECK.due("reaction(" + far + ", 4)", full.reaction(far, 4), -2);
        }
    }

    private static void noSuchPlace() {
        CHECK.says("-2 when there is no such reaction or place");
        SpeciesRounds x = turned("HNOH");
        for (int i : new int[] {0, 1, 20, 39}) {
            CHECK.due("reaction(" + i + ", -1)", x.reaction(i, -1), -2);
            CHECK.due("reaction(" + i + ", 0)", x.reaction(i, 0) > -2, true);
            CHECK.due("reaction(" + i + ", 4)", x.reaction(i, 4) > -2, true);
            CHECK.due("reaction(" + i + ", 5)", x.reaction(i, 5), -2);
            CHECK.due("reaction(" + i + ", 6)", x.reaction(i, 6), -2);
            for (int far : Check.FAR) {
                CHECK.due("reaction(" + i + ", " + far + ")", x.reaction(i, far), -2);
            }
        }
        for (int far : Check.FAR) {
            CHECK.due("reaction(" + far + ", " + far + ")", x.reaction(far, far), -2);
        }
    }
}
