/** The boundary cases of molecules and texts in the document's terms, a method for each sentence that names one. */
public final class TermsEdgeTest {
    private static final Check CHECK = new Check();

    public static void main(String[] args) {
        calls();
        letters();
        whatAtomsCanHave();
        oneToCapAtoms();
        ordersOfBonds();
        oneBondBetweenTwo();
        noBondToItself();
        joinedByBonds();
        noAtomWithMore();
        rowOfAWord();
        leastOfTheWords();
        lessAtTheFirstDifference();
        sameSpecies();
        twelveSpecies();
        atomsNumberedAsInTheKey();
        lineStands();
        texts();
        rests();
        branches();
        marks();
        links();
        everyLetter();
        atomBefore();
        restBelongs();
        firstMark();
        secondMark();
        digitAnew();
        CHECK.end();
    }

    private static void dueEnter(String text, int due) {
        CHECK.due("enter() of '" + text + "'", Check.enter(new SpeciesRounds(5), text), due);
    }

    private static void dueKey(String text, String word) {
        SpeciesRounds x = new SpeciesRounds(5);
        CHECK.due("enter() of '" + text + "'", Check.enter(x, text), 0);
        CHECK.dueWord(x, 0, word);
    }

    private static void dueSame(String one, String other, boolean same) {
        SpeciesRounds x = new SpeciesRounds(5);
        CHECK.due("enter() of '" + one + "'", Check.enter(x, one), 0);
        CHECK.due("enter() of '" + other + "' after '" + one + "'", Check.enter(x, other), same ? 0 : 1);
    }

    private static void calls() {
        CHECK.says("An object is used for at most 512 calls after it has been made");
        SpeciesRounds x = Check.with(5, "HOH");
        x.rule(0, 1, -1);
        x.change(0, 0, 1, 1, 0);
        CHECK.due("call 7: round()", x.round(), 2);
        for (int call = 8; call <= 509; call += 3) {
            CHECK.due("call " + call + ": round()", x.round(), call == 8 ? 1 : 0);
            CHECK.due("call " + (call + 1) + ": matches(0, 0, -1)", x.matches(0, 0, -1), 2);
            CHECK.due("call " + (call + 2) + ": reactions()", x.reactions(), 2);
        }
        CHECK.due("call 512: reaction(1, 4)", x.reaction(1, 4), 3);
    }

    private static void letters() {
        CHECK.says("ATOMS have a LETTER H, O, N or C, with the codes 0, 1, 2, 3");
        for (char c = 32; c <= 126; c++) {
            int code = "HONC".indexOf(c);
            SpeciesRounds x = new SpeciesRounds(5);
            CHECK.due("enter() of '" + c + "'", Check.enter(x, "" + c), code < 0 ? -1 : 0);
            CHECK.due("atom(0, 0) of '" + c + "'", x.atom(0, 0), code);
        }
    }

    private static void whatAtomsCanHave() {
        CHECK.says("and can have bonds of orders that sum up to at most 1, 2, 3, 4");
        String[] full = {"HH", "HC", "CH", "HOH", "O(H)H", "O=C", "C=O", "HN(H)H", "N(H)(H)H", "N(=C)H", "HN=C",
            "N#C", "C#N", "C(H)(H)(H)H", "HC(H)(H)H", "C(=C)(H)H", "C=C=C", "C#CC", "CC#C", "C1(=C)CC1",
            "C=1C=C=1", "N12CC1C2"};
        for (String text : full) {
            dueEnter(text, 0);
        }
        String[] oneMore = {"HHH", "H(H)H", "H=C", "C=H", "H1CC1", "O(H)(H)H", "O(=C)H", "HO=C", "O#C", "C#O",
            "O12CC1C2", "N(H)(H)(H)H", "N(=C)(H)H", "N(=C)=C", "N(#C)H", "HN#C", "C#NC", "C(=C)(H)(H)H",
            "C(=C)(=C)C", "C(#C)(H)H", "C#C=C", "C=C#C", "C(#C)#C", "C=1(=C)C=C=1"};
        for (String text : oneMore) {
            dueEnter(text, -103);
        }
    }

    private static void oneToCapAtoms() {
        CHECK.says("A MOLECULE is 1 to CAP atoms");
        String chain = "CCCCCCCCCCCCCCCCCCCCCCCC";
        for (int cap = 2; cap <= 5; cap++) {
            for (int atoms = 0; atoms <= 24; atoms++) {
                int due = atoms == 0 ? -1 : atoms <= cap ? 0 : -102;
                CHECK.due("cap " + cap + ", " + atoms + " atoms",
                        Check.enter(new SpeciesRounds(cap), chain.substring(0, atoms)), due);
            }
        }
    }

    private static void ordersOfBonds() {
        CHECK.says("with bonds of order 1, 2 or 3");
        dueKey("CC", "2:33:1");
        dueKey("C-C", "2:33:1");
        dueKey("C=C", "2:33:2");
        dueKey("C#C", "2:33:3");
        dueKey("C-1CC-1", "3:333:111");
        dueKey("C=1CC=1", "3:333:112");
        dueKey("C#1CC#1", "3:333:113");
    }

    private static void oneBondBetweenTwo() {
        CHECK.says("at most one between two atoms");
        dueEnter("C1CC1", 0);
        dueEnter("C1C1", -101);
        dueEnter("C1(C1)", -101);
        dueEnter("C=1C=1", -101);
        dueEnter("C-1=C-1", -101);
        dueEnter("CC1C1", -101);
        dueEnter("C12CC1C2", 0);
        dueEnter("C12CC12", -101);
        dueEnter("C12CC21", -101);
    }

    private static void noBondToItself() {
        CHECK.says("and none from an atom to itself");
        dueEnter("C11", -101);
        dueEnter("C1(C)1", -101);
        dueEnter("C#2#2", -101);
        dueEnter("CC22", -101);
        dueEnter("C1212", -101);
        dueEnter("C1(CC)1C", -101);
        dueEnter("C1(CC1)C", 0);
    }

    private static void joinedByBonds() {
        CHECK.says("all of them joined by bonds");
        SpeciesRounds x = Check.with(5, "CC");
        x.rule(3, 3, -1);
        x.change(0, 0, 1, 1, 0);
        CHECK.due("round() of CC in two pieces", x.round(), 1);
        CHECK.dueWord(x, 1, "1:3:");
        x = Check.with(5, "C1CC1");
        x.rule(3, 3, -1);
        x.change(0, 0, 1, 1, 0);
        CHECK.due("round() of a ring that stays in one piece", x.round(), 1);
        CHECK.dueWord(x, 1, "3:333:011");
    }

    private static void noAtomWithMore() {
        CHECK.says("no atom with more than it can have");
        for (int code = 0; code <= 3; code++) {
            String text = "" + "HONC".charAt(code);
            for (int hydrogens = 0; hydrogens <= 4; hydrogens++) {
                dueEnter(text, hydrogens <= code + 1 ? 0 : -103);
                text += "(H)";
            }
        }
        // By rounds, too: an atom takes one H after the other until it is full.
        for (int code = 1; code <= 3; code++) {
            SpeciesRounds x = Check.with(5, "" + "HONC".charAt(code), "H");
            x.rule(code, 0, -1);
            x.change(0, 0, 1, 0, 1);
            for (int round = 1; round <= 6; round++) {
                CHECK.due("code " + code + ": round " + round, x.round(), round <= code + 1 ? 1 : 0);
            }
        }
    }

    private static void rowOfAWord() {
        CHECK.says("how many atoms there are; their codes in this order; and the orders (0 for no bond) between the "
                + "atoms 0 and 1, 0 and 2, 1 and 2, 0 and 3, 1 and 3, 2 and 3, and so on");
        dueKey("N", "1:2:");
        dueKey("C=O", "2:13:2");
        dueKey("HC#N", "3:023:013");
        dueKey("HOC=N", "4:0123:100012");
        dueKey("C#CON=O", "5:11233:0120001003");
        dueKey("HON=CC", "5:01233:1010000021");
    }

    private static void leastOfTheWords() {
        CHECK.says("Its KEY is the least of its words");
        dueKey("HOH", "3:001:011");
        dueKey("C=CC", "3:333:012");
        dueKey("C=C=C", "3:333:022");
        dueKey("C1=CC1", "3:333:112");
        dueKey("CC(C)C", "4:3333:000111");
        dueKey("CCCC", "4:3333:001101");
        dueKey("CCCCC", "5:33333:0000111010");
        dueKey("CC(C)(C)C", "5:33333:0000001111");
    }

    /** New species stand in the order of their keys. */
    private static void lessAtTheFirstDifference() {
        CHECK.says("of two words the one is less that has the less number at the first place where they differ");
        SpeciesRounds x = Check.with(5, "N=CCC");
        x.rule(3, 3, -1);
        x.change(0, 0, 1, 1, 0);
        CHECK.due("round(): how many atoms, then the codes, then the orders", x.round(), 4);
        CHECK.dueText("species", Seen.species(x), "4:2333:001201 1:3: 2:23:2 2:33:1 3:233:021 -1");
        x = Check.with(4, "CCC", "C");
        x.rule(3, 3, -1);
        x.change(0, 0, 1, 0, 1);
        CHECK.due("round(): of four atoms each, a star and a chain", x.round(), 4);
        CHECK.dueText("species", Seen.species(x), "3:333:011 1:3: 2:33:1 3:333:111 4:3333:000111 4:3333:001101 -1");
    }

    private static void sameSpecies() {
        CHECK.says("Two molecules are the same SPECIES when they have the same key");
        dueSame("HOC=N", "N=COH", true);
        dueSame("C1CC1", "C(C2)C2", true);
        dueSame("CC(C)C", "C(C)(C)C", true);
        dueSame("CC(C)C", "CCCC", false);
        dueSame("C=CO", "CC=O", false);
        dueSame("C1CCC1", "CC1CC1", false);
        dueSame("H", "O", false);
        dueSame("C", "CC", false);
    }

    private static void twelveSpecies() {
        CHECK.says("The TABLE has at most twelve species, numbered from 0 on");
        SpeciesRounds x = new SpeciesRounds(5);
        for (int s = 0; s < 12; s++) {
            CHECK.due("enter() of '" + Check.TWELVE[s] + "'", Check.enter(x, Check.TWELVE[s]), s);
        }
        CHECK.due("a thirteenth", Check.enter(x, "N#N"), -104);
        CHECK.due("species()", x.species(), 12);
        CHECK.due("the twelfth once more", Check.enter(x, Check.TWELVE[11]), 11);
        CHECK.due("the first once more", Check.enter(x, Check.TWELVE[0]), 0);
    }

    private static void atomsNumberedAsInTheKey() {
        CHECK.says("The atoms of a species are numbered as in an ordering whose word is the key");
        for (String text : new String[] {"HOC=N", "N=COH", "O(H)C=N", "C(OH)=N"}) {
            dueKey(text, "4:0123:100012");
        }
    }

    /** Only key, back and enter change it, whatever the other calls answer. */
    private static void lineStands() {
        CHECK.says("What is typed stands in the LINE");
        SpeciesRounds x = Check.with(5, "HOH");
        Check.type(x, "C=");
        x.species();
        x.size(0);
        x.size(1);
        x.atom(0, 3);
        x.bond(0, 0, 3);
        x.rule(0, 1, -1);
        x.rule(4, 0, 0);
        x.change(0, 0, 1, 1, 0);
        x.change(0, 0, 2, 1, 0);
        x.matches(0, 0, -1);
        x.matches(0, 0, 9);
        CHECK.due("round()", x.round(), 2);
        x.reactions();
        x.reaction(0, 0);
        x.reaction(9, 9);
        x.key((char) 127);
        x.key('O');
        CHECK.due("enter()", x.enter(), 3);
        CHECK.dueWord(x, 3, "2:13:2");
    }

    private static void texts() {
        CHECK.says("A TEXT is a CHAIN. A chain is a letter (H, O, N or C) and a REST");
        dueEnter("", -1);
        dueEnter("(C)", -1);
        dueEnter("-C", -1);
        dueEnter("1C1", -1);
        dueEnter("C", 0);
        dueEnter("c", -1);
        dueEnter("CX", -2);
        dueEnter("C ", -2);
    }

    private static void rests() {
        CHECK.says("A rest is nothing; or a BRANCH and a rest; or a MARK and a rest; or a LINK and a chain");
        dueEnter("C", 0);
        dueEnter("C(C)", 0);
        dueEnter("C(C)(C)", 0);
        dueEnter("C(C)C", 0);
        dueEnter("C1(CC1)", 0);
        dueEnter("C(C1)C1", 0);
        dueEnter("C1CC1", 0);
        dueEnter("C12CC1C2", 0);
        dueEnter("C-C", 0);
        dueEnter("C-", -3);
        dueEnter("C-(C)", -3);
        dueEnter("C)", -2);
    }

    private static void branches() {
        CHECK.says("A branch is (, a link, a chain and )");
        dueEnter("C(C)", 0);
        dueEnter("C(-C)", 0);
        dueEnter("C(=C)", 0);
        dueEnter("C(#C)", 0);
        dueEnter("C(C(C))", 0);
        dueEnter("C(C(C(C(C))))", 0);
        dueEnter("C()", -3);
        dueEnter("C(=)", -4);
        dueEnter("C((C))", -3);
        dueEnter("C(1)", -3);
        dueEnter("C(-1)", -4);
        dueEnter("C(", -3);
        dueEnter("C(C", -4);
        dueEnter("C(C(C)", -7);
        dueEnter("C(C))", -5);
        dueEnter("C[C]", -2);
    }

    private static void marks() {
        CHECK.says("A mark is a link and a digit 1 or 2");
        for (char digit = '0'; digit <= '9'; digit++) {
            int taken = digit == '1' || digit == '2' ? 0 : 1;
            dueEnter("C" + digit + "CC" + digit, taken == 0 ? 0 : -2);
            dueEnter("C=" + digit + "CC=" + digit, taken == 0 ? 0 : -3);
        }
        dueEnter("C-1CC1", 0);
        dueEnter("C#1CC#1", 0);
        dueEnter("C--1CC1", -3);
        dueEnter("C1=", -4);
        dueEnter("C12CC12", -101);
        dueEnter("C1-2CC-1C2", 0);
    }

    private static void links() {
        CHECK.says("A link is nothing (for order 1), - (1), = (2) or # (3)");
        for (char c = 32; c <= 126; c++) {
            int order = "-=#".indexOf(c) + 1;
            SpeciesRounds x = new SpeciesRounds(5);
            if ("HONC12".indexOf(c) < 0) {
                CHECK.due("enter() of 'C" + c + "C'", Check.enter(x, "C" + c + "C"), order > 0 ? 0 : c == '(' ? -4 : -2);
                CHECK.due("its order", x.bond(0, 0, 1), order > 0 ? order : -1);
            }
        }
        dueKey("CC", "2:33:1");
        dueEnter("C-=C", -3);
        dueEnter("C##C", -3);
    }

    private static void everyLetter() {
        CHECK.says("Every letter is an atom");
        String[] texts = {"C", "HO", "C(N)O", "C1C(O)N1", "C(C)(N(O))C"};
        for (int k = 0; k < texts.length; k++) {
            SpeciesRounds x = Check.with(5, texts[k]);
            CHECK.due("size(0) of '" + texts[k] + "'", x.size(0), k + 1);
        }
        dueEnter("C(C)(C)(C)(C)(C)(C)(C)", -102);
    }

    private static void atomBefore() {
        CHECK.says("A link before a chain is a bond between the atom of the chain's first letter and the atom before: the "
                + "one whose letter the rest belongs to, in which the link or the branch stands");
        dueSame("C(O)N", "OCN", true);
        dueSame("C(ON)", "CON", true);
        dueSame("C(O)(N)", "OCN", true);
        dueSame("C(=O)N", "NC=O", true);
        dueSame("C(O)=N", "OC=N", true);
        dueSame("C(C(O)N)O", "OCC(O)N", true);
        dueSame("C(C(O))N", "NCCO", true);
    }

    private static void restBelongs() {
        CHECK.says("A rest belongs to the letter of its chain; the rest within a rest belongs to the same letter, but that "
                + "of a chain to the chain's own");
        dueSame("C(O)(N)H", "OC(N)H", true);
        dueSame("C(ON)H", "HCON", true);
        dueSame("C(O(N))H", "HCON", true);
        dueSame("C(O)1NC1", "OC1NC1", true);
        dueSame("C1(O)NC1", "OC1NC1", true);
        dueSame("CO(N)", "C(O)N", false);
        dueSame("C(O1)NC1", "O1CNC1", true);
    }

    private static void firstMark() {
        CHECK.says("The first mark with a digit only remembers its atom (the letter to which its rest belongs) and its "
                + "order");
        dueEnter("C1", -100);
        dueEnter("C#1", -100);
        dueEnter("H1", -100);
        dueEnter("HH#1", -100);
        dueEnter("C1C2CC1", -100);
        dueEnter("C1CC2", -100);
        dueKey("C(C)1CC1", "4:3333:001111");
    }

    private static void secondMark() {
        CHECK.says("the second one with the same digit makes a bond of that order between the remembered atom and its own");
        dueKey("C1CC1", "3:333:111");
        dueKey("C=2CC=2", "3:333:112");
        dueKey("C#2CC#2", "3:333:113");
        dueKey("C1CCC1", "4:3333:011110");
        dueKey("OC1CC1", "4:1333:001111");
        dueEnter("C=1CC1", -101);
        dueEnter("C1CC=1", -101);
        dueEnter("C-1CC1", 0);
    }

    private static void digitAnew() {
        CHECK.says("and the digit is as if it had not been there; and so on");
        dueEnter("C1CC11CC1", 0);
        dueSame("C1CC11CC1", "C1CC12CC2", true);
        dueEnter("C1CC1C1", -100);
        dueEnter("C(C1CC1=1)=1", 0);
        dueSame("C(C1CC1=1)=1", "C(C1CC1=2)=2", true);
        dueEnter("C(C1CC1=1)1", -101);
    }
}
