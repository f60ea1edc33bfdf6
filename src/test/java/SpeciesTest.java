/** Promises 5 to 8: the table and the atoms and bonds of its species, numbered as in the key. */
public final class SpeciesTest {
    private static final Check CHECK = new Check();
    private static final int[] FAR = {Integer.MIN_VALUE, -2, -1, 12, 40, Integer.MAX_VALUE};

    public static void main(String[] args) {
        words();
        everyNumbering();
        counts();
        noSuch();
        CHECK.end();
    }

    private static void word(String text, String due) {
        SpeciesRounds x = Check.with(5, text);
        CHECK.dueWord(x, 0, due);
    }

    private static void words() {
        word("H", "1:0:");
        word("C", "1:3:");
        word("OC", "2:13:1");
        word("C#N", "2:23:3");
        word("HOH", "3:001:011");
        word("O=C=O", "3:113:022");
        word("HC#N", "3:023:013");
        word("CC=C", "3:333:012");
        word("C=CC", "3:333:012");
        word("C1CC1", "3:333:111");
        word("C1C=C1", "3:333:112");
        word("C(=O)(H)H", "4:0013:000112");
        word("CCCC", "4:3333:001101");
        word("CC(C)C", "4:3333:000111");
        word("C(C)(C)(C)C", "5:33333:0000001111");
        word("HOOH", "4:0011:001101");
    }

    /** However its text goes through the atoms, it is one species. */
    private static void everyNumbering() {
        String[] same = {"HOC=N", "N=COH", "O(H)C=N", "O(C=N)H", "C(OH)=N", "C(=N)OH", "HO(C=N)", "N(=COH)",
            "N=C(OH)", "C(O(H))(=N)", "H(O(C(=N)))", "N=CO(H)"};
        SpeciesRounds x = new SpeciesRounds(4);
        for (String text : same) {
            CHECK.due("enter() of " + text, Check.enter(x, text), 0);
        }
        CHECK.due("species()", x.species(), 1);
        CHECK.dueWord(x, 0, "4:0123:100012");
    }

    private static void counts() {
        SpeciesRounds x = new SpeciesRounds(5);
        String[] texts = {"HOH", "C", "HO(H)", "C=C", "N", "C", "CCCCC", "C(C)CCC"};
        int[] numbers = {0, 1, 0, 2, 3, 1, 4, 4};
        int[] counts = {1, 2, 2, 3, 4, 4, 5, 5};
        for (int k = 0; k < texts.length; k++) {
            CHECK.due("enter() of " + texts[k], Check.enter(x, texts[k]), numbers[k]);
            CHECK.due("species()", x.species(), counts[k]);
        }
        int[] sizes = {3, 1, 2, 1, 5};
        for (int s = 0; s < sizes.length; s++) {
            CHECK.due("size(" + s + ")", x.size(s), sizes[s]);
        }
        CHECK.due("size(5)", x.size(5), -1);
    }

    private static void noSuch() {
        SpeciesRounds none = new SpeciesRounds(3);
        CHECK.due("size(0) of none", none.size(0), -1);
        CHECK.due("atom(0, 0) of none", none.atom(0, 0), -1);
        CHECK.due("bond(0, 0, 0) of none", none.bond(0, 0, 0), -1);
        SpeciesRounds x = Check.with(5, "HOH", "C=C");
        for (int far : FAR) {
            CHECK.due("size(" + far + ")", x.size(far), -1);
            CHECK.due("atom(" + far + ", 0)", x.atom(far, 0), -1);
            CHECK.due("atom(0, " + far + ")", x.atom(0, far), -1);
            CHECK.due("bond(" + far + ", 0, 1)", x.bond(far, 0, 1), -1);
            CHECK.due("bond(0, " + far + ", 0)", x.bond(0, far, 0), -1);
            CHECK.due("bond(0, 0, " + far + ")", x.bond(0, 0, far), -1);
            CHECK.due("bond(0, far, far)", x.bond(0, far, far), -1);
        }
        CHECK.due("size(2)", x.size(2), -1);
        CHECK.due("atom(0, 3)", x.atom(0, 3), -1);
        CHECK.due("atom(1, 2)", x.atom(1, 2), -1);
        CHECK.due("bond(0, 3, 0)", x.bond(0, 3, 0), -1);
        CHECK.due("bond(1, 0, 2)", x.bond(1, 0, 2), -1);
        CHECK.due("bond(1, 2, 2)", x.bond(1, 2, 2), -1);
        CHECK.due("bond(1, 1, 1)", x.bond(1, 1, 1), 0);
        CHECK.due("bond(1, 1, 0)", x.bond(1, 1, 0), 2);
        CHECK.due("bond(1, 0, 1)", x.bond(1, 0, 1), 2);
        CHECK.due("bond(0, 2, 1)", x.bond(0, 2, 1), 1);
    }
}
