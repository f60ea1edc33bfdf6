/** The boundary cases of promises 5 to 8, a method for each sentence that names one. */
public final class TableEdgeTest {
    private static final Check CHECK = new Check();
    /** Of one to five atoms each. */
    private static final String[] SIZES = {"N", "C#N", "O=C=O", "C(=O)(H)H", "C(H)(H)(H)H"};

    public static void main(String[] args) {
        howManySpecies();
        howManyAtoms();
        noneOfThatNumber();
        noneAfterARefusal();
        codes();
        noSuchSpeciesOfAtom();
        noSuchAtom();
        orders();
        zeroForItself();
        noSuchSpeciesOfBond();
        noSuchAtomOfBond();
        CHECK.end();
    }

    private static SpeciesRounds sizes() {
        return Check.with(5, SIZES);
    }

    private static void howManySpecies() {
        CHECK.says("How many species the table has");
        SpeciesRounds x = new SpeciesRounds(5);
        CHECK.due("species() of none", x.species(), 0);
        for (int s = 0; s < 12; s++) {
            Check.enter(x, Check.TWELVE[s]);
            CHECK.due("species() after '" + Check.TWELVE[s] + "'", x.species(), s + 1);
        }
        Check.enter(x, "N#N");
        CHECK.due("species() after the thirteenth", x.species(), 12);
        x = Check.with(5, "HOH", "HO(H)", "HHH", "H");
        CHECK.due("species() after the same twice and a refusal", x.species(), 2);
        x.rule(0, 1, -1);
        x.change(0, 0, 1, 1, 0);
        CHECK.due("round()", x.round(), 1);
        CHECK.due("species() after the round", x.species(), 3);
    }

    private static void howManyAtoms() {
        CHECK.says("How many atoms species s has");
        SpeciesRounds x = sizes();
        for (int s = 0; s < 5; s++) {
            CHECK.due("size(" + s + ")", x.size(s), s + 1);
        }
        x = Check.with(5, Check.TWELVE);
        CHECK.due("size(0)", x.size(0), 1);
        CHECK.due("size(11)", x.size(11), 2);
    }

    private static void noneOfThatNumber() {
        CHECK.says("-1 when there is none");
        CHECK.due("size(0) of no species", new SpeciesRounds(5).size(0), -1);
        CHECK.due("size(-1) of no species", new SpeciesRounds(5).size(-1), -1);
        SpeciesRounds x = new SpeciesRounds(5);
        for (int s = 0; s < 12; s++) {
            CHECK.due("size(" + s + ") before it is there", x.size(s), -1);
            Check.enter(x, Check.TWELVE[s]);
            CHECK.due("size(" + s + ") when it is there", x.size(s) > 0, true);
            CHECK.due("size(-1)", x.size(-1), -1);
        }
        CHECK.due("size(12)", x.size(12), -1);
        for (int far : Check.FAR) {
            CHECK.due("size(" + far + ")", x.size(far), -1);
        }
    }

    /** What a refused round had met is no species. */
    private static void noneAfterARefusal() {
        CHECK.says("-1 when there is none");
        SpeciesRounds x = Check.with(5, "HOH", "N", "C", "NN", "N=N", "N#N", "CC", "C=C", "C#C", "CN", "C=N");
        x.rule(0, 1, -1);
        x.change(0, 0, 1, 1, 0);
        CHECK.due("round()", x.round(), -1);
        CHECK.due("species()", x.species(), 11);
        CHECK.due("size(10)", x.size(10), 2);
        CHECK.due("size(11)", x.size(11), -1);
        CHECK.due("atom(11, 0)", x.atom(11, 0), -1);
        CHECK.due("bond(11, 0, 0)", x.bond(11, 0, 0), -1);
    }

    private static void codes() {
        CHECK.says("The code of atom i of species s");
        SpeciesRounds x = sizes();
        int[][] due = {{2}, {2, 3}, {1, 1, 3}, {0, 0, 1, 3}, {0, 0, 0, 0, 3}};
        for (int s = 0; s < 5; s++) {
            for (int i = 0; i <= s; i++) {
                CHECK.due("atom(" + s + ", " + i + ")", x.atom(s, i), due[s][i]);
            }
        }
        CHECK.due("atom(11, 1)", Check.with(5, Check.TWELVE).atom(11, 1), 2);
    }

    private static void noSuchSpeciesOfAtom() {
        CHECK.says("-1 when there is no such species or atom");
        CHECK.due("atom(0, 0) of no species", new SpeciesRounds(5).atom(0, 0), -1);
        SpeciesRounds x = sizes();
        CHECK.due("atom(-1, 0)", x.atom(-1, 0), -1);
        CHECK.due("atom(5, 0)", x.atom(5, 0), -1);
        x = Check.with(5, Check.TWELVE);
        CHECK.due("atom(12, 0)", x.atom(12, 0), -1);
        for (int far : Check.FAR) {
            CHECK.due("atom(" + far + ", 0)", x.atom(far, 0), -1);
            CHECK.due("atom(" + far + ", " + far + ")", x.atom(far, far), -1);
        }
    }

    private static void noSuchAtom() {
        CHECK.says("-1 when there is no such species or atom");
        SpeciesRounds x = sizes();
        for (int s = 0; s < 5; s++) {
            CHECK.due("atom(" + s + ", -1)", x.atom(s, -1), -1);
            for (int i = s + 1; i < 12; i++) {
                CHECK.due("atom(" + s + ", " + i + ")", x.atom(s, i), -1);
            }
            for (int far : Check.FAR) {
                CHECK.due("atom(" + s + ", " + far + ")", x.atom(s, far), -1);
            }
        }
    }

    private static void orders() {
        CHECK.says("The order between the atoms i and j of species s");
        SpeciesRounds x = sizes();
        int[][] due = {{}, {3}, {0, 2, 2}, {0, 0, 0, 1, 1, 2}, {0, 0, 0, 0, 0, 0, 1, 1, 1, 1}};
        for (int s = 0; s < 5; s++) {
            for (int j = 1; j <= s; j++) {
                for (int i = 0; i < j; i++) {
                    int order = due[s][j * (j - 1) / 2 + i];
                    CHECK.due("bond(" + s + ", " + i + ", " + j + ")", x.bond(s, i, j), order);
                    CHECK.due("bond(" + s + ", " + j + ", " + i + ")", x.bond(s, j, i), order);
                }
            }
        }
        CHECK.due("bond(11, 0, 1)", Check.with(5, Check.TWELVE).bond(11, 0, 1), 2);
    }

    private static void zeroForItself() {
        CHECK.says("0 for i = j");
        SpeciesRounds x = sizes();
        for (int s = 0; s < 5; s++) {
            for (int i = 0; i <= s; i++) {
                CHECK.due("bond(" + s + ", " + i + ", " + i + ")", x.bond(s, i, i), 0);
            }
            CHECK.due("no such atom, twice", x.bond(s, s + 1, s + 1), -1);
            CHECK.due("bond(" + s + ", -1, -1)", x.bond(s, -1, -1), -1);
        }
        CHECK.due("no such species", x.bond(5, 0, 0), -1);
    }

    private static void noSuchSpeciesOfBond() {
        CHECK.says("-1 when there is no such species or atom");
        CHECK.due("bond(0, 0, 0) of no species", new SpeciesRounds(5).bond(0, 0, 0), -1);
        CHECK.due("bond(0, 0, 1) of no species", new SpeciesRounds(5).bond(0, 0, 1), -1);
        SpeciesRounds x = sizes();
        CHECK.due("bond(-1, 0, 1)", x.bond(-1, 0, 1), -1);
        CHECK.due("bond(5, 0, 1)", x.bond(5, 0, 1), -1);
        x = Check.with(5, Check.TWELVE);
        CHECK.due("bond(12, 0, 1)", x.bond(12, 0, 1), -1);
        for (int far : Check.FAR) {
            CHECK.due("bond(" + far + ", 0, 0)", x.bond(far, 0, 0), -1);
            CHECK.due("bond(" + far + ", 0, 1)", x.bond(far, 0, 1), -1);
        }
    }

    private static void noSuchAtomOfBond() {
        CHECK.says("-1 when there is no such species or atom");
        SpeciesRounds x = sizes();
        for (int s = 0; s < 5; s++) {
            for (int i : new int[] {-1, s + 1, 5, 6}) {
                CHECK.due("bond(" + s + ", 0, " + i + ")", x.bond(s, 0, i), -1);
                CHECK.due("bond(" + s + ", " + i + ", 0)", x.bond(s, i, 0), -1);
                CHECK.due("bond(" + s + ", " + i + ", " + s + ")", x.bond(s, i, s), -1);
                CHECK.due("bond(" + s + ", " + s + ", " + i + ")", x.bond(s, s, i), -1);
            }
        }
        for (int far : Check.FAR) {
            CHECK.due("bond(4, 0, " + far + ")", x.bond(4, 0, far), -1);
            CHECK.due("bond(4, " + far + ", 0)", x.bond(4, far, 0), -1);
            CHECK.due("bond(4, " + far + ", " + far + ")", x.bond(4, far, far), -1);
        }
    }
}
