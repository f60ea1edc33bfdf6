/** Promises 1 to 4: a new object, the line, and what enter makes of it. */
public final class LineTest {
    private static final Check CHECK = new Check();

    public static void main(String[] args) {
        newObject();
        caps();
        keys();
        backs();
        faults();
        texts();
        marks();
        refusals();
        firstRefusalCounts();
        fullTable();
        CHECK.end();
    }

    private static void newObject() {
        SpeciesRounds x = new SpeciesRounds(4);
        CHECK.due("new: species()", x.species(), 0);
        CHECK.due("new: reactions()", x.reactions(), 0);
        CHECK.due("new: back()", x.back(), false);
        CHECK.due("new: change", x.change(0, 0, 1, 0, 1), false);
        CHECK.due("new: matches", x.matches(0, 0, -1), -1);
        CHECK.due("new: enter()", x.enter(), -1);
        CHECK.due("new: round()", x.round(), 0);
        CHECK.due("new: rule", x.rule(0, 0, -1), 0);
    }

    private static void caps() {
        int[][] capsDue = {{Integer.MIN_VALUE, 2}, {-1, 2}, {0, 2}, {1, 2}, {2, 2}, {3, 3}, {4, 4}, {5, 5}, {6, 5},
            {Integer.MAX_VALUE, 5}};
        for (int[] due : capsDue) {
            SpeciesRounds x = new SpeciesRounds(due[0]);
            CHECK.due("cap " + due[0] + ": as many atoms", Check.enter(x, "CCCCC".substring(0, due[1])), 0);
            CHECK.due("cap " + due[0] + ": one more", Check.enter(x, "CCCCCC".substring(0, due[1] + 1)), -102);
        }
    }

    private static void keys() {
        SpeciesRounds x = new SpeciesRounds(5);
        for (int c = 20; c < 140; c++) {
            CHECK.due("key(" + c + ")", x.key((char) c), c >= 32 && c <= 126);
            x.back();
        }
        // A refused character does not stand in the line.
        x.key((char) 31);
        x.key((char) 127);
        CHECK.due("back() after refused keys", x.back(), false);
        for (int k = 0; k < 24; k++) {
            CHECK.due("key no. " + k, x.key('('), true);
        }
        CHECK.due("key no. 24", x.key('('), false);
        CHECK.due("key no. 24, once more", x.key('C'), false);
        for (int k = 0; k < 24; k++) {
            CHECK.due("back no. " + k, x.back(), true);
        }
        CHECK.due("back no. 24", x.back(), false);
        CHECK.due("what is typed then", Check.enter(x, "C"), 0);
    }

    private static void backs() {
        SpeciesRounds x = new SpeciesRounds(5);
        Check.type(x, "CO)");
        CHECK.due("back()", x.back(), true);
        CHECK.due("enter() without the last", x.enter(), 0);
        CHECK.dueWord(x, 0, "2:13:1");
        CHECK.due("back() after enter()", x.back(), false);
        Check.type(x, "C?");
        CHECK.due("enter() of a fault", x.enter(), -2);
        CHECK.due("back() after a fault", x.back(), false);
        CHECK.due("a branch left open", Check.enter(x, "C(C"), -4);
        CHECK.due("the next line has none", Check.enter(x, "C(C)"), 1);
        CHECK.due("a mark left open", Check.enter(x, "C1"), -100);
        CHECK.due("the next line has none", Check.enter(x, "C1CC1"), 2);
        CHECK.due("a clash", Check.enter(x, "C11"), -101);
        CHECK.due("the next line has none", Check.enter(x, "C"), 3);
        Check.type(x, "CCCCCC");
        CHECK.due("enter() of too many", x.enter(), -102);
        CHECK.due("back() after too many", x.back(), false);
    }

    private static void fault(String text, int due) {
        SpeciesRounds x = new SpeciesRounds(5);
        CHECK.due("enter() of '" + text + "'", Check.enter(x, text), due);
        CHECK.due("species() after '" + text + "'", x.species(), 0);
        CHECK.due("the line after '" + text + "'", x.enter(), -1);
    }

    private static void faults() {
        fault("", -1);
        for (String first : new String[] {"x", "1", "-C", "=", "(C)", ")", "c", " C", "h"}) {
            fault(first, -1);
        }
        fault("C)", -2);
        fault("C3", -2);
        fault("C0", -2);
        fault("C C", -2);
        fault("CCl", -3);
        fault("C(", -3);
        fault("C()", -3);
        fault("C((C))", -3);
        fault("C(1", -3);
        fault("C(1C1)", -3);
        fault("C(=", -4);
        fault("C(=1", -4);
        fault("C(=)", -4);
        fault("C(==C)", -4);
        fault("C(=(C))", -4);
        fault("C(C", -4);
        fault("C(C=", -5);
        fault("C(C=)", -5);
        fault("C(C))", -5);
        fault("C(C)C)", -6);
        fault("C-", -3);
        fault("C--C", -3);
        fault("C-=C", -3);
        fault("C=(C)", -3);
        fault("C=)", -3);
        fault("C1=", -4);
        fault("C1-)", -4);
        fault("C(C)=", -6);
        // The fault of the text comes before all that the molecule would be refused for.
        fault("C1)", -3);
        fault("HHHHHHHH(", -10);
        fault("C11CCCCCCC=", -12);
        // No text can be so short, but a longer one begins so.
        fault("C(C(C(C(C(C(C(C(C(C(C(C(", -25);
        fault("CCCCCCCCCCCCCCCCCCCCCCC#", -25);
        fault("CCCCCCCCCCCCCCCCCCCCCCC)", -24);
    }

    private static void same(String one, String other) {
        SpeciesRounds x = new SpeciesRounds(5);
        CHECK.due("enter() of " + one, Check.enter(x, one), 0);
        CHECK.due("enter() of " + other + " after " + one, Check.enter(x, other), 0);
    }

    private static void differ(String one, String other) {
        SpeciesRounds x = new SpeciesRounds(5);
        CHECK.due("enter() of " + one, Check.enter(x, one), 0);
        CHECK.due("enter() of " + other + " after " + one, Check.enter(x, other), 1);
    }

    private static void texts() {
        same("CC", "C-C");
        same("C(C)", "C(-C)");
        same("C(CC)C", "CCCC");
        same("C(C(C))C", "CCCC");
        same("C(C)(C)C", "CC(C)C");
        same("CC(C)(C)C", "C(C)(C)(C)(C)");
        same("C(=O)(H)H", "HC(H)=O");
        same("C(O)=C", "C=CO");
        same("C(=C)O", "OC=C");
        same("C=C(O)", "C=CO");
        same("OC=N", "N=CO");
        same("C(C=O)N", "NCC=O");
        differ("CC(C)C", "CCCC");
        differ("C=CO", "CC=O");
        differ("C(=O)C", "C(O)=C");
        differ("CC", "C=C");
        differ("C=C", "C#C");
        differ("CN", "CO");
    }

    private static void marks() {
        same("C1CC1", "C(C1)C1");
        same("C1CC1", "C-1CC1");
        same("C1CC1", "C2CC-2");
        same("C=1CC=1", "C1=CC1");
        same("C1C(C1)", "C2CC2");
        same("C(C)1CC1", "C1(C)CC1");
        same("C(C)1CC1", "CC1CC1");
        same("C1C2CC12", "C12CC1C2");
        same("C1CC11CC1", "C12(CC1)CC2");
        same("C1CC12CC2", "C1CC11CC1");
        same("C1CC1CC", "CCC1CC1");
        same("C12CC1C2", "C1C2CC21");
        differ("C1CC1", "CCC");
        differ("C1CC1C", "C1CCC1");
        differ("C=1CC=1", "C1CC1");
    }

    private static void refusals() {
        fault("C1", -100);
        fault("CC2", -100);
        fault("C1CC1C1", -100);
        fault("C1C2CC1", -100);
        fault("C11", -101);
        fault("C=1=1", -101);
        fault("C1=1", -101);
        fault("C1C1", -101);
        fault("C1(C1)", -101);
        fault("C12CC12", -101);
        fault("C1CC=1", -101);
        fault("C=1CC1", -101);
        fault("C#1CC=1", -101);
        fault("C1CC1C1CC1", -102);
        fault("CCCCCC", -102);
        fault("CCCCCCCCCCCCCCCCCCCCCCCC", -102);
        fault("H=H", -103);
        fault("HHH", -103);
        fault("O=O=O", -103);
        fault("O#C", -103);
        fault("N#NH", -103);
        fault("N(H)(H)(H)H", -103);
        fault("C=C#C", -103);
        fault("C#1C=C#1", -103);
        SpeciesRounds x = new SpeciesRounds(5);
        String[] justFull = {"HH", "O=O", "N#N", "HC#N", "C(H)(H)(H)H", "C=C=C", "O=C=O", "N(H)(H)H", "C=1C=C=1"};
        for (int k = 0; k < justFull.length; k++) {
            CHECK.due("enter() of " + justFull[k], Check.enter(x, justFull[k]), k);
        }
    }

    private static void firstRefusalCounts() {
        fault("C1C=1C1", -100);
        fault("C11C1", -100);
        fault("CCCCCCC1", -100);
        fault("HHH1", -100);
        fault("C11CCCCC", -101);
        fault("HHH11", -101);
        fault("HHHHHH", -102);
        SpeciesRounds x = Check.with(5, Check.TWELVE);
        CHECK.due("-100 before -104", Check.enter(x, "CC1"), -100);
        CHECK.due("-101 before -104", Check.enter(x, "CC11"), -101);
        CHECK.due("-102 before -104", Check.enter(x, "CCCCCC"), -102);
        CHECK.due("-103 before -104", Check.enter(x, "HHH"), -103);
    }

    private static void fullTable() {
        SpeciesRounds x = new SpeciesRounds(5);
        for (int k = 0; k < Check.TWELVE.length; k++) {
            CHECK.due("enter() of " + Check.TWELVE[k], Check.enter(x, Check.TWELVE[k]), k);
            CHECK.due("species()", x.species(), k + 1);
        }
        CHECK.due("the thirteenth", Check.enter(x, "N#N"), -104);
        CHECK.due("the line then", x.back(), false);
        CHECK.due("species()", x.species(), 12);
        for (int k = 0; k < Check.TWELVE.length; k++) {
            CHECK.due("once more " + Check.TWELVE[k], Check.enter(x, Check.TWELVE[k]), k);
        }
        CHECK.dueWord(x, 11, "2:22:2");
    }
}
