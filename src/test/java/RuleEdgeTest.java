/** The boundary cases of rules and their matches, promises 9 to 11, a method for each sentence that names one. */
public final class RuleEdgeTest {
    private static final Check CHECK = new Check();

    public static void main(String[] args) {
        atMostThree();
        twoOrThreePlaces();
        codesOfPlaces();
        ordersZero();
        whenThereAreThree();
        wrongCodes();
        ordersBecome();
        lastOrdersCount();
        ordersOfEachTwo();
        noSuchRule();
        noSuchPlace();
        notLess();
        wrongOrders();
        oneSpeciesOrTwo();
        differentAtoms();
        theirLetters();
        oneOfEachMolecule();
        justTheOrderBefore();
        alone();
        whateverTheyYield();
        mostMatches();
        noRuleToMatch();
        noSpeciesToMatch();
        refusedChangesNothing();
        CHECK.end();
    }

    private static SpeciesRounds ruleOf(int a, int b, int c, String... texts) {
        SpeciesRounds x = Check.with(5, texts);
        x.rule(a, b, c);
        return x;
    }

    private static void atMostThree() {
        CHECK.says("There are at most three, numbered from 0");
        SpeciesRounds x = new SpeciesRounds(5);
        for (int r = 0; r < 3; r++) {
            CHECK.due("change() of rule " + r + " before it is there", x.change(r, 0, 1, 0, 0), false);
            CHECK.due("rule() no. " + r, x.rule(0, 0, -1), r);
            CHECK.due("change() of rule " + r, x.change(r, 0, 1, 0, 0), true);
        }
        CHECK.due("a fourth", x.rule(0, 0, -1), -1);
        CHECK.due("change() of a fourth", x.change(3, 0, 1, 0, 0), false);
    }

    private static void twoOrThreePlaces() {
        CHECK.says("c = -1: two places");
        SpeciesRounds x = new SpeciesRounds(5);
        x.rule(0, 0, -1);
        x.rule(0, 0, 0);
        CHECK.due("two: change(0, 0, 1, ..)", x.change(0, 0, 1, 0, 0), true);
        CHECK.due("two: change(0, 0, 2, ..)", x.change(0, 0, 2, 0, 0), false);
        CHECK.due("two: change(0, 1, 2, ..)", x.change(0, 1, 2, 0, 0), false);
        CHECK.due("three: change(1, 0, 1, ..)", x.change(1, 0, 1, 0, 0), true);
        CHECK.due("three: change(1, 0, 2, ..)", x.change(1, 0, 2, 0, 0), true);
        CHECK.due("three: change(1, 1, 2, ..)", x.change(1, 1, 2, 0, 0), true);
        CHECK.due("three: change(1, 0, 3, ..)", x.change(1, 0, 3, 0, 0), false);
        // Two places take two atoms, three take three.
        x = ruleOf(3, 3, -1, "C");
        x.rule(3, 3, 3);
        CHECK.due("two of two atoms", x.matches(0, 0, 0), 2);
        CHECK.due("three of two atoms", x.matches(1, 0, 0), 0);
    }

    private static void codesOfPlaces() {
        CHECK.says("A new rule with the codes a, b and c of its places");
        for (int a = 0; a <= 3; a++) {
            for (int b = 0; b <= 3; b++) {
                for (int c = -1; c <= 3; c++) {
                    CHECK.due("rule(" + a + ", " + b + ", " + c + ")", new SpeciesRounds(5).rule(a, b, c), 0);
                }
            }
        }
        SpeciesRounds x = ruleOf(0, 1, -1, "H", "O", "N", "C");
        CHECK.due("H and O", x.matches(0, 0, 1), 1);
        CHECK.due("H and H", x.matches(0, 0, 0), 0);
        CHECK.due("H and N", x.matches(0, 0, 2), 0);
        x.rule(2, 3, -1);
        CHECK.due("N and C", x.matches(1, 2, 3), 1);
        CHECK.due("O and C", x.matches(1, 1, 3), 0);
        CHECK.due("N and N", x.matches(1, 2, 2), 0);
        x = ruleOf(3, 3, 0, "CC", "H", "C");
        CHECK.due("no bond between the C", x.matches(0, 0, 1), 0);
        x.change(0, 0, 1, 1, 1);
        CHECK.due("C, C and H", x.matches(0, 0, 1), 2);
        CHECK.due("C, C and C", x.matches(0, 0, 2), 0);
    }

    private static void ordersZero() {
        CHECK.says("all orders 0: its number");
        SpeciesRounds x = ruleOf(3, 3, -1, "CC", "C", "CCC");
        x.rule(3, 3, 3);
        CHECK.due("no bond in CC", x.matches(0, 0, -1), 0);
        CHECK.due("CC and C", x.matches(0, 0, 1), 4);
        CHECK.due("the ends of CCC", x.matches(0, 2, -1), 2);
        CHECK.due("three of CCC", x.matches(1, 2, -1), 0);
        CHECK.due("the ends of CCC and a C", x.matches(1, 2, 1), 6);
        CHECK.due("round() without a change", x.round(), 0);
        CHECK.due("reactions()", x.reactions(), 0);
        // The orders after are 0 too: what is not changed otherwise stays without a bond.
        x.change(1, 0, 1, 1, 0);
        CHECK.due("round() of a bond that goes", x.round(), 0);
        CHECK.due("reactions()", x.reactions() > 0, true);
    }

    private static void whenThereAreThree() {
        CHECK.says("-1, refused, when there are three");
        SpeciesRounds x = new SpeciesRounds(5);
        CHECK.due("refused: not counted", x.rule(4, 0, -1), -1);
        CHECK.due("first", x.rule(3, 3, 3), 0);
        CHECK.due("second", x.rule(3, 3, 3), 1);
        CHECK.due("refused: not counted", x.rule(0, 0, 4), -1);
        CHECK.due("third", x.rule(3, 3, 3), 2);
        CHECK.due("fourth", x.rule(3, 3, 3), -1);
        CHECK.due("fourth, of two places", x.rule(0, 0, -1), -1);
    }

    private static void wrongCodes() {
        CHECK.says("a or b is not 0 .. 3, or c not -1 .. 3");
        int[] near = {-2, -1, 0, 1, 2, 3, 4, 5};
        for (int code : near) {
            boolean isCode = code >= 0 && code <= 3;
            dueRule(code, 0, 0, isCode);
            dueRule(code, 3, -1, isCode);
            dueRule(0, code, 0, isCode);
            dueRule(3, code, -1, isCode);
            dueRule(0, 0, code, isCode || code == -1);
            dueRule(3, 3, code, isCode || code == -1);
        }
        for (int far : Check.FAR) {
            dueRule(far, 0, 0, false);
            dueRule(0, far, 0, false);
            dueRule(0, 0, far, false);
            dueRule(far, far, -1, false);
        }
    }

    private static void dueRule(int a, int b, int c, boolean taken) {
        SpeciesRounds x = new SpeciesRounds(5);
        CHECK.due("rule(" + a + ", " + b + ", " + c + ")", x.rule(a, b, c), taken ? 0 : -1);
        CHECK.due("the next one", x.rule(0, 0, 0), taken ? 1 : 0);
    }

    private static void ordersBecome() {
        CHECK.says("The orders between the places i and j of a rule become before and after: true");
        String[] texts = {"C.C", "CC", "C=C", "C#C"};
        for (int before = 0; before <= 3; before++) {
            for (int after = 0; after <= 3; after++) {
                String call = "change(0, 0, 1, " + before + ", " + after + ")";
                SpeciesRounds x = ruleOf(3, 3, -1, "C", "CC", "C=C", "C#C");
                CHECK.due(call, x.change(0, 0, 1, before, after), true);
                for (int s = 1; s <= 3; s++) {
                    CHECK.due(call + ": matches in " + texts[s], x.matches(0, s, -1), s == before ? 2 : 0);
                }
                CHECK.due(call + ": matches in C and C", x.matches(0, 0, 0), before == 0 ? 2 : 0);
                x = before == 0 ? Check.with(2, "C") : Check.with(2, texts[before]);
                x.rule(3, 3, -1);
                x.change(0, 0, 1, before, after);
                CHECK.due(call + ": round()", x.round(), before == after ? 0 : 1);
                CHECK.dueWord(x, before == after ? 0 : 1, after == 0 ? "1:3:" : "2:33:" + after);
            }
        }
    }

    /** Each pair of places has orders of its own, and the last change of a pair is the one that counts. */
    private static void lastOrdersCount() {
        CHECK.says("The orders between the places i and j of a rule become before and after: true");
        SpeciesRounds x = ruleOf(1, 2, 3, "ONC", "O1NC1", "OCN", "NOC");
        x.change(0, 0, 1, 1, 0);
        dueMatches(x, 0, 0, 0, 0);
        x.change(0, 1, 2, 1, 0);
        dueMatches(x, 1, 0, 0, 0);
        x.change(0, 0, 2, 1, 0);
        dueMatches(x, 0, 1, 0, 0);
        x.change(0, 0, 1, 0, 0);
        dueMatches(x, 0, 0, 1, 0);
        x.change(0, 0, 1, 1, 0);
        x.change(0, 1, 2, 0, 0);
        dueMatches(x, 0, 0, 0, 1);
        x.change(0, 1, 2, 3, 0);
        x.change(0, 1, 2, 1, 0);
        dueMatches(x, 0, 1, 0, 0);
    }

    private static void ordersOfEachTwo() {
        CHECK.says("A rule has two or three PLACES with a letter each, and for each two of them an order BEFORE and an order "
                + "AFTER, 0 to 3 each");
        for (int i = 0; i <= 1; i++) {
            for (int j = i + 1; j <= 2; j++) {
                for (int before = 0; before <= 3; before++) {
                    for (int after = 0; after <= 3; after++) {
                        dueTurn(i, j, before, after);
                    }
                }
            }
        }
    }

    /** Three C with two single bonds; between the other two of them the order turns from one into another. */
    private static void dueTurn(int i, int j, int before, int after) {
        String[] texts = {"CCC", "C1CC1", "C=1CC=1", "C#1CC#1"};
        String turn = "places " + i + " and " + j + ", " + before + " to " + after;
        SpeciesRounds x = ruleOf(3, 3, 3, texts);
        SpeciesRounds y = ruleOf(3, 3, 3, texts[before]);
        for (SpeciesRounds each : new SpeciesRounds[] {x, y}) {
            each.change(0, 0, 1, 1, 1);
            each.change(0, 0, 2, 1, 1);
            each.change(0, 1, 2, 1, 1);
            CHECK.due(turn + ": change()", each.change(0, i, j, before, after), true);
        }
        for (int s = 0; s <= 3; s++) {
            int due = s != before ? 0 : s == 1 ? 6 : 2;
            CHECK.due(turn + ": matches in " + texts[s], x.matches(0, s, -1), due);
        }
        CHECK.due(turn + ": round()", y.round(), before == after ? 0 : 1);
        CHECK.dueWord(y, y.species() - 1, after == 0 ? "3:333:011" : "3:333:11" + after);
    }

    private static void dueMatches(SpeciesRounds x, int... due) {
        for (int s = 0; s < due.length; s++) {
            CHECK.due("matches(0, " + s + ", -1)", x.matches(0, s, -1), due[s]);
        }
    }

    private static void noSuchRule() {
        CHECK.says("False, refused, when there is no such rule or place");
        SpeciesRounds x = new SpeciesRounds(5);
        CHECK.due("change() without rules", x.change(0, 0, 1, 0, 0), false);
        for (int r = 0; r < 3; r++) {
            x.rule(3, 3, 3);
            CHECK.due("change(" + r + ", ..)", x.change(r, 0, 1, 0, 0), true);
            CHECK.due("change(" + (r + 1) + ", ..)", x.change(r + 1, 0, 1, 0, 0), false);
            CHECK.due("change(-1, ..)", x.change(-1, 0, 1, 0, 0), false);
        }
        for (int far : Check.FAR) {
            CHECK.due("change(" + far + ", ..)", x.change(far, 0, 1, 0, 0), false);
        }
    }

    private static void noSuchPlace() {
        CHECK.says("False, refused, when there is no such rule or place");
        SpeciesRounds x = new SpeciesRounds(5);
        x.rule(3, 3, -1);
        x.rule(3, 3, 3);
        for (int rule = 0; rule <= 1; rule++) {
            for (int i = -2; i <= 4; i++) {
                for (int j = -2; j <= 4; j++) {
                    boolean taken = i >= 0 && i < j && j < 2 + rule;
                    CHECK.due("change(" + rule + ", " + i + ", " + j + ", ..)", x.change(rule, i, j, 0, 0), taken);
                }
            }
            for (int far : Check.FAR) {
                CHECK.due("change(" + rule + ", " + far + ", 1, ..)", x.change(rule, far, 1, 0, 0), false);
                CHECK.due("change(" + rule + ", 0, " + far + ", ..)", x.change(rule, 0, far, 0, 0), false);
                CHECK.due("change(" + rule + ", " + far + ", 40, ..)", x.change(rule, far, 40, 0, 0), false);
            }
        }
    }

    private static void notLess() {
        CHECK.says("i is not less than j");
        SpeciesRounds x = ruleOf(3, 3, 3);
        int[][] pairs = {{0, 0}, {1, 1}, {2, 2}, {1, 0}, {2, 0}, {2, 1}};
        for (int[] pair : pairs) {
            CHECK.due("change(0, " + pair[0] + ", " + pair[1] + ", ..)", x.change(0, pair[0], pair[1], 0, 1), false);
        }
        CHECK.due("change(0, 1, 2, ..)", x.change(0, 1, 2, 0, 1), true);
    }

    private static void wrongOrders() {
        CHECK.says("or before or after is not 0 .. 3");
        SpeciesRounds x = ruleOf(3, 3, 3);
        for (int order = -2; order <= 5; order++) {
            boolean taken = order >= 0 && order <= 3;
            CHECK.due("before " + order, x.change(0, 0, 1, order, 0), taken);
            CHECK.due("before " + order + ", after 3", x.change(0, 1, 2, order, 3), taken);
            CHECK.due("after " + order, x.change(0, 0, 1, 0, order), taken);
            CHECK.due("after " + order + ", before 3", x.change(0, 1, 2, 3, order), taken);
        }
        for (int far : Check.FAR) {
            CHECK.due("before " + far, x.change(0, 0, 1, far, 0), false);
            CHECK.due("after " + far, x.change(0, 0, 1, 0, far), false);
            CHECK.due("both " + far, x.change(0, 0, 1, far, far), false);
        }
    }

    private static void oneSpeciesOrTwo() {
        CHECK.says("It works on a MIXTURE: one species, or two (perhaps twice the same), whose atoms and bonds lie side by "
                + "side");
        SpeciesRounds x = ruleOf(0, 1, -1, "HOH", "HH");
        x.change(0, 0, 1, 1, 0);
        CHECK.due("one", x.matches(0, 0, -1), 2);
        CHECK.due("no bond goes across", x.matches(0, 0, 0), 0);
        x.change(0, 0, 1, 0, 1);
        CHECK.due("one", x.matches(0, 0, -1), 0);
        CHECK.due("two", x.matches(0, 0, 1), 2);
        CHECK.due("two, the other way", x.matches(0, 1, 0), 2);
        CHECK.due("twice the same", x.matches(0, 0, 0), 4);
    }

    private static void differentAtoms() {
        CHECK.says("A MATCH is a choice of different atoms of the mixture for the places");
        SpeciesRounds x = ruleOf(3, 3, -1, "C", "CCC");
        x.rule(3, 3, 3);
        CHECK.due("one atom for two places", x.matches(0, 0, -1), 0);
        CHECK.due("one atom for three places", x.matches(1, 0, -1), 0);
        CHECK.due("two atoms for three places", x.matches(1, 0, 0), 0);
        CHECK.due("ends for two places", x.matches(0, 1, -1), 2);
        CHECK.due("ends for three places", x.matches(1, 1, -1), 0);
    }

    private static void theirLetters() {
        CHECK.says("with their letters");
        for (int a = 0; a <= 3; a++) {
            for (int b = 0; b <= 3; b++) {
                SpeciesRounds x = ruleOf(a, b, -1, "H", "O", "N", "C");
                for (int s = 0; s <= 3; s++) {
                    for (int t = 0; t <= 3; t++) {
                        int due = (a == s && b == t ? 1 : 0) + (a == t && b == s ? 1 : 0);
                        CHECK.due("rule(" + a + ", " + b + ", -1) in " + s + " and " + t, x.matches(0, s, t), due);
                    }
                }
            }
        }
    }

    private static void oneOfEachMolecule() {
        CHECK.says("at least one of each molecule of the mixture");
        SpeciesRounds x = ruleOf(3, 3, -1, "CC", "O", "C", "CCC");
        x.change(0, 0, 1, 1, 1);
        CHECK.due("CC alone", x.matches(0, 0, -1), 2);
        CHECK.due("none of O", x.matches(0, 0, 1), 0);
        CHECK.due("none of the other CC", x.matches(0, 0, 0), 0);
        x.rule(3, 3, 1);
        x.change(1, 0, 1, 1, 1);
        CHECK.due("O for the third place", x.matches(1, 0, 1), 2);
        CHECK.due("the same the other way", x.matches(1, 1, 0), 2);
        CHECK.due("no O", x.matches(1, 0, -1), 0);
        x.rule(3, 3, 3);
        x.change(2, 0, 1, 1, 1);
        x.change(2, 1, 2, 1, 1);
        CHECK.due("CCC alone", x.matches(2, 3, -1), 2);
        CHECK.due("CCC and none of the other", x.matches(2, 3, 2), 0);
    }

    private static void justTheOrderBefore() {
        CHECK.says("between the atoms for any two places there is just the order before (0: no bond)");
        for (int before = 0; before <= 3; before++) {
            SpeciesRounds x = ruleOf(3, 3, -1, "C", "CC", "C=C", "C#C", "CC(C)C", "C1CC1");
            x.change(0, 0, 1, before, 0);
            for (int order = 1; order <= 3; order++) {
                CHECK.due("before " + before + " at order " + order, x.matches(0, order, -1), before == order ? 2 : 0);
            }
            CHECK.due("before " + before + " in two", x.matches(0, 0, 0), before == 0 ? 2 : 0);
            CHECK.due("before " + before + " in a star", x.matches(0, 4, -1), before < 2 ? 6 : 0);
            CHECK.due("before " + before + " in a ring", x.matches(0, 5, -1), before == 1 ? 6 : 0);
        }
        // A third pair that has a bond which the rule does not name is no match.
        SpeciesRounds x = ruleOf(3, 3, 3, "CCC", "C1CC1");
        x.change(0, 0, 1, 1, 0);
        x.change(0, 1, 2, 1, 0);
        CHECK.due("a chain in a chain", x.matches(0, 0, -1), 2);
        CHECK.due("a chain in a ring", x.matches(0, 1, -1), 0);
        x.change(0, 0, 2, 1, 0);
        CHECK.due("a ring in a chain", x.matches(0, 0, -1), 0);
        CHECK.due("a ring in a ring", x.matches(0, 1, -1), 6);
    }

    private static void alone() {
        CHECK.says("in the mixture of species s alone (t = -1) or of s and t");
        SpeciesRounds x = ruleOf(0, 0, -1, "HOH", "HH");
        CHECK.due("matches(0, 0, -1)", x.matches(0, 0, -1), 2);
        CHECK.due("matches(0, 0, 0)", x.matches(0, 0, 0), 8);
        CHECK.due("matches(0, 0, 1)", x.matches(0, 0, 1), 8);
        CHECK.due("matches(0, 1, -1)", x.matches(0, 1, -1), 0);
        CHECK.due("matches(0, 1, 0)", x.matches(0, 1, 0), 8);
    }

    private static void whateverTheyYield() {
        CHECK.says("whatever they yield");
        SpeciesRounds x = Check.with(2, "HH", "CC");
        x.rule(0, 0, -1);
        x.change(0, 0, 1, 0, 3);
        CHECK.due("atoms would have too much", x.matches(0, 0, 0), 8);
        x.rule(3, 3, -1);
        x.change(1, 0, 1, 0, 1);
        CHECK.due("molecules would be too large", x.matches(1, 1, 1), 8);
        x.rule(3, 3, -1);
        x.change(2, 0, 1, 1, 1);
        CHECK.due("nothing would change", x.matches(2, 1, -1), 2);
        CHECK.due("round()", x.round(), 0);
        CHECK.due("matches after it", x.matches(0, 0, 0), 8);
    }

    private static void mostMatches() {
        CHECK.says("How many matches a rule has");
        SpeciesRounds x = ruleOf(3, 3, 3, "C(C)(C)(C)C", "HH");
        CHECK.due("three of the four ends", x.matches(0, 0, -1), 24);
        // Of one molecule two ends in either order (12), of the other one atom (5), on one of three places.
        CHECK.due("of two stars", x.matches(0, 0, 0), 2 * 12 * 5 * 3);
        CHECK.due("none at all", x.matches(0, 1, 1), 0);
    }

    private static void noRuleToMatch() {
        CHECK.says("-1 when there is no such rule or species");
        SpeciesRounds x = Check.with(5, "HOH");
        CHECK.due("matches without rules", x.matches(0, 0, -1), -1);
        for (int r = 0; r < 3; r++) {
            x.rule(0, 0, -1);
            CHECK.due("matches(" + r + ", 0, -1)", x.matches(r, 0, -1), 2);
            CHECK.due("matches(" + (r + 1) + ", 0, -1)", x.matches(r + 1, 0, -1), -1);
            CHECK.due("matches(-1, 0, -1)", x.matches(-1, 0, -1), -1);
        }
        for (int far : Check.FAR) {
            CHECK.due("matches(" + far + ", 0, -1)", x.matches(far, 0, -1), -1);
            CHECK.due("matches(" + far + ", 0, 0)", x.matches(far, 0, 0), -1);
        }
    }

    private static void noSpeciesToMatch() {
        CHECK.says("-1 when there is no such rule or species");
        SpeciesRounds x = ruleOf(0, 0, -1);
        CHECK.due("matches without species", x.matches(0, 0, -1), -1);
        CHECK.due("matches without species", x.matches(0, -1, -1), -1);
        for (int s = 0; s < 12; s++) {
            Check.enter(x, Check.TWELVE[s]);
            CHECK.due("matches(0, " + s + ", -1)", x.matches(0, s, -1), 0);
            CHECK.due("matches(0, 0, " + s + ")", x.matches(0, 0, s) >= 0, true);
            CHECK.due("matches(0, " + (s + 1) + ", -1)", x.matches(0, s + 1, -1), -1);
            CHECK.due("matches(0, " + (s + 1) + ", 0)", x.matches(0, s + 1, 0), -1);
            CHECK.due("matches(0, 0, " + (s + 1) + ")", x.matches(0, 0, s + 1), -1);
            CHECK.due("matches(0, -1, " + s + ")", x.matches(0, -1, s), -1);
        }
        CHECK.due("matches(0, -1, -1)", x.matches(0, -1, -1), -1);
        CHECK.due("matches(0, 0, -2)", x.matches(0, 0, -2), -1);
        for (int far : Check.FAR) {
            CHECK.due("matches(0, " + far + ", -1)", x.matches(0, far, -1), -1);
            CHECK.due("matches(0, " + far + ", 0)", x.matches(0, far, 0), -1);
            CHECK.due("matches(0, 0, " + far + ")", x.matches(0, 0, far), -1);
        }
    }

    private static void refusedChangesNothing() {
        CHECK.says("A call that is refused changes nothing but the line");
        int[][] rules = {{-1, 0, 0}, {4, 0, 0}, {0, -1, 0}, {0, 4, 0}, {0, 0, -2}, {0, 0, 4}};
        String due = Seen.withRound(() -> twoRules());
        for (int[] rule : rules) {
            String seen = Seen.withRound(() -> {
                SpeciesRounds x = twoRules();
                x.rule(rule[0], rule[1], rule[2]);
                return x;
            });
            CHECK.dueText("after rule(" + rule[0] + ", " + rule[1] + ", " + rule[2] + ")", seen, due);
        }
        int[][] changes = {{-1, 0, 1, 2, 3}, {2, 0, 1, 2, 3}, {0, -1, 1, 2, 3}, {0, 0, 2, 2, 3}, {0, 1, 2, 2, 3},
            {1, 0, 3, 2, 3}, {1, 1, 1, 2, 3}, {1, 1, 0, 2, 3}, {1, 2, 1, 2, 3}, {0, 0, 1, -1, 3}, {0, 0, 1, 4, 3},
            {0, 0, 1, 2, -1}, {0, 0, 1, 2, 4}, {1, 0, 2, 2, 4}, {1, 1, 2, 4, 0}};
        for (int[] c : changes) {
            String seen = Seen.withRound(() -> {
                SpeciesRounds x = twoRules();
                x.change(c[0], c[1], c[2], c[3], c[4]);
                return x;
            });
            CHECK.dueText("after change(" + c[0] + ", " + c[1] + ", " + c[2] + ", " + c[3] + ", " + c[4] + ")", seen, due);
        }
        CHECK.dueText("after a fourth rule", Seen.withRound(() -> fourthRule(true)), Seen.withRound(() -> fourthRule(false)));
    }

    /** With an order before that C=C has, a change taken by mistake would be seen. */
    private static SpeciesRounds twoRules() {
        SpeciesRounds x = Check.with(5, "CC", "C=C", "C#C", "H");
        x.rule(3, 3, -1);
        x.change(0, 0, 1, 1, 0);
        x.rule(3, 3, 0);
        x.change(1, 0, 1, 2, 1);
        Check.type(x, "C1C");
        return x;
    }

    private static SpeciesRounds fourthRule(boolean tried) {
        SpeciesRounds x = twoRules();
        x.rule(3, 0, -1);
        x.change(2, 0, 1, 0, 1);
        if (tried) {
            CHECK.due("a fourth rule", x.rule(0, 3, 3), -1);
            CHECK.due("a fourth rule", x.rule(3, 3, -1), -1);
        }
        return x;
    }
}
