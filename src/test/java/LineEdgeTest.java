/** The boundary cases of promises 1 to 4, a method for each sentence that names one. */
public final class LineEdgeTest {
    private static final Check CHECK = new Check();
    /** One for each answer that is no species' number. */
    private static final String[] NOT_TAKEN = {"", "x", "C(", "C1", "C11", "CCCCCC", "HHH"};
    private static final int[] WHY_NOT = {-1, -1, -3, -100, -101, -102, -103};

    public static void main(String[] args) {
        leastCap();
        mostCap();
        capsBetween();
        emptyLine();
        nothingYet();
        characterAdded();
        charactersOutside();
        lineOfTwentyFour();
        lastGoes();
        backOnEmpty();
        emptyAfterwards();
        eachLineForItself();
        leastPlace();
        lengthOfTheLine();
        howeverLong();
        everyShortLine();
        notUsedDigit();
        notTheSameOrder();
        toItself();
        twoBonds();
        moreThanCap();
        moreThanItCanHave();
        tableThatHasTwelve();
        firstThatHolds();
        notThereYet();
        refusedChangesNothing();
        CHECK.end();
    }

    private static void dueEnter(int cap, String text, int due) {
        CHECK.due("enter() of '" + text + "'", Check.enter(new SpeciesRounds(cap), text), due);
    }

    private static void dueCap(int given, int cap) {
        CHECK.due("cap " + given + ": as many atoms", Check.enter(new SpeciesRounds(given), "CCCCC".substring(0, cap)), 0);
        CHECK.due("cap " + given + ": one more", Check.enter(new SpeciesRounds(given), "CCCCCC".substring(0, cap + 1)),
                -102);
        // The products of a match are held to the same CAP.
        SpeciesRounds x = Check.with(given, "NCCCC".substring(0, cap - 1), "O", "NCCCC".substring(0, cap));
        x.rule(2, 1, -1);
        x.change(0, 0, 1, 0, 1);
        CHECK.due("cap " + given + ": round()", x.round(), 1);
        CHECK.due("cap " + given + ": size(3)", x.size(3), cap);
    }

    private static void leastCap() {
        CHECK.says("CAP is cap, but 2 when that is less");
        for (int given : new int[] {Integer.MIN_VALUE, Integer.MIN_VALUE + 2, -65531, -253, -5, -1, 0, 1, 2}) {
            dueCap(given, 2);
        }
    }

    private static void mostCap() {
        CHECK.says("and 5 when it is more");
        for (int given : new int[] {5, 6, 7, 10, 24, 258, 65538, Integer.MAX_VALUE - 1, Integer.MAX_VALUE}) {
            dueCap(given, 5);
        }
    }

    private static void capsBetween() {
        CHECK.says("CAP is cap");
        dueCap(3, 3);
        dueCap(4, 4);
    }

    private static void emptyLine() {
        CHECK.says("The line is empty");
        CHECK.due("back()", new SpeciesRounds(5).back(), false);
        CHECK.due("enter()", new SpeciesRounds(5).enter(), -1);
    }

    private static void nothingYet() {
        CHECK.says("there are no species, rules or reactions");
        SpeciesRounds x = new SpeciesRounds(5);
        CHECK.due("species()", x.species(), 0);
        CHECK.due("size(0)", x.size(0), -1);
        CHECK.due("atom(0, 0)", x.atom(0, 0), -1);
        CHECK.due("bond(0, 0, 0)", x.bond(0, 0, 0), -1);
        CHECK.due("change(0, 0, 1, 0, 0)", x.change(0, 0, 1, 0, 0), false);
        CHECK.due("matches(0, 0, -1)", x.matches(0, 0, -1), -1);
        CHECK.due("reactions()", x.reactions(), 0);
        CHECK.due("reaction(0, 0)", x.reaction(0, 0), -2);
        CHECK.due("round()", x.round(), 0);
        CHECK.due("rule(0, 0, -1)", x.rule(0, 0, -1), 0);
        CHECK.due("enter() of C", Check.enter(x, "C"), 0);
        // Nothing is held in common with an object that was made before.
        SpeciesRounds other = new SpeciesRounds(5);
        CHECK.due("another one's species()", other.species(), 0);
        CHECK.due("another one's rule()", other.rule(0, 0, -1), 0);
        CHECK.due("another one's enter() of O", Check.enter(other, "O"), 0);
        CHECK.due("the first one's atom(0, 0)", x.atom(0, 0), 3);
    }

    private static void characterAdded() {
        CHECK.says("The character is added at the end of the line: true");
        SpeciesRounds x = new SpeciesRounds(5);
        CHECK.due("key('C')", x.key('C'), true);
        CHECK.due("key('=')", x.key('='), true);
        CHECK.due("key('O')", x.key('O'), true);
        CHECK.due("enter()", x.enter(), 0);
        CHECK.dueWord(x, 0, "2:13:2");
    }

    private static void charactersOutside() {
        CHECK.says("False when it is not 32 .. 126");
        for (int from = 0; from < 65536; from += 256) {
            SpeciesRounds x = new SpeciesRounds(5);
            for (int c = from; c < from + 256; c++) {
                boolean inside = c >= 32 && c <= 126;
                CHECK.due("key(" + c + ")", x.key((char) c), inside);
                if (inside) {
                    CHECK.due("back() after key(" + c + ")", x.back(), true);
                }
            }
            CHECK.due("back() at the end", x.back(), false);
        }
        SpeciesRounds x = new SpeciesRounds(5);
        for (char c : new char[] {'C', 31, '=', 127, 'O', 65535}) {
            x.key(c);
        }
        CHECK.due("enter() of what was taken", x.enter(), 0);
        CHECK.dueWord(x, 0, "2:13:2");
    }

    private static void lineOfTwentyFour() {
        CHECK.says("or the line has 24 already");
        SpeciesRounds x = new SpeciesRounds(5);
        String text = "C-1(-C-2(-C(-C2(-C-1))))";
        for (int k = 0; k < 24; k++) {
            CHECK.due("character " + (k + 1), x.key(text.charAt(k)), true);
        }
        CHECK.due("character 25", x.key('x'), false);
        CHECK.due("character 25, one that could go on", x.key('C'), false);
        CHECK.due("enter() of the 24", x.enter(), 0);
        CHECK.dueWord(x, 0, "5:33333:0011011101");
        CHECK.due("key after enter()", x.key('C'), true);
        x = new SpeciesRounds(5);
        Check.type(x, text + "xx");
        CHECK.due("back()", x.back(), true);
        CHECK.due("character 24 once more", x.key('='), true);
        CHECK.due("character 25", x.key(')'), false);
        CHECK.due("enter() with the other one", x.enter(), -25);
    }

    private static void lastGoes() {
        CHECK.says("The last character of the line goes: true");
        SpeciesRounds x = new SpeciesRounds(5);
        Check.type(x, "CNO");
        CHECK.due("back()", x.back(), true);
        CHECK.due("back()", x.back(), true);
        x.key('=');
        x.key('C');
        CHECK.due("enter()", x.enter(), 0);
        CHECK.dueWord(x, 0, "2:33:2");
        Check.type(x, "((((((((((((((((((((((((");
        for (int k = 0; k < 24; k++) {
            CHECK.due("back() no. " + (k + 1), x.back(), true);
        }
        CHECK.due("back() no. 25", x.back(), false);
    }

    private static void backOnEmpty() {
        CHECK.says("False when the line is empty");
        SpeciesRounds x = new SpeciesRounds(5);
        CHECK.due("back()", x.back(), false);
        CHECK.due("back()", x.back(), false);
        x.key('C');
        CHECK.due("back()", x.back(), true);
        CHECK.due("back()", x.back(), false);
        CHECK.due("enter() of O after that", Check.enter(x, "O"), 0);
        CHECK.dueWord(x, 0, "1:1:");
        CHECK.due("back() after enter()", x.back(), false);
    }

    private static void emptyAfterwards() {
        CHECK.says("The line is read, and is empty afterwards in any case");
        for (int k = 0; k < NOT_TAKEN.length; k++) {
            dueEmptyAfter(new SpeciesRounds(5), NOT_TAKEN[k], WHY_NOT[k]);
        }
        dueEmptyAfter(new SpeciesRounds(5), "C", 0);
        dueEmptyAfter(Check.with(5, "C"), "C", 0);
        dueEmptyAfter(Check.with(5, Check.TWELVE), "N#N", -104);
        dueEmptyAfter(new SpeciesRounds(5), "((((((((((((((((((((((((", -1);
    }

    private static void dueEmptyAfter(SpeciesRounds x, String text, int due) {
        CHECK.due("enter() of '" + text + "'", Check.enter(x, text), due);
        CHECK.due("back() after '" + text + "'", x.back(), false);
        CHECK.due("enter() after '" + text + "'", x.enter(), -1);
        CHECK.due("enter() of HH after '" + text + "'", Check.enter(x, "HH") >= 0, true);
    }

    /** What an earlier line left half done does not come up in a later one. */
    private static void eachLineForItself() {
        CHECK.says("The line is read, and is empty afterwards in any case");
        String[] texts = {"", "C", "C=", "C(C", "C(C(C(", "C1", "C=2", "C11", "C1CC=1", "C=H", "CC=H", "HHHHH", "CCCCCC",
            "C#C", "C1CC1", "C12CC1C2", "C(C)(C)(C)C", "O=C=O", "CCCCCCCCCCCCCCCCCCCCCCC1", "H", "HH", "NCO"};
        for (String first : texts) {
            for (String second : texts) {
                SpeciesRounds x = Check.with(5, first);
                SpeciesRounds fresh = new SpeciesRounds(5);
                int got = Check.enter(x, second);
                int due = Check.enter(fresh, second);
                String call = "enter() of '" + second + "' after '" + first + "'";
                CHECK.due(call, got >= 0 ? 0 : got, due);
                CHECK.dueText(call, Check.wordOf(x, got), Check.wordOf(fresh, due));
            }
        }
    }

    private static void leastPlace() {
        CHECK.says("-1 - p, p being the least number for which the first p + 1 characters are not the beginning of any "
                + "text");
        dueEnter(5, "xC", -1);
        dueEnter(5, ")C", -1);
        dueEnter(5, "Cx", -2);
        dueEnter(5, "C)(", -2);
        dueEnter(5, "C)x)", -2);
        dueEnter(5, "C(C)x", -5);
        dueEnter(5, "C(C))x", -5);
        dueEnter(5, "CCx(", -3);
        dueEnter(5, "CCCCCCCCCCCCCCCCCCCCCCCx", -24);
        dueEnter(5, "CCCCCCCCCCCCCCCCCCCCCC=x", -24);
        dueEnter(5, "C((((((((((((((((((((((", -3);
    }

    private static void lengthOfTheLine() {
        CHECK.says("or the length of the line if there is none");
        dueEnter(5, "", -1);
        dueEnter(5, "C=", -3);
        dueEnter(5, "C(", -3);
        dueEnter(5, "C(=", -4);
        dueEnter(5, "C(C", -4);
        dueEnter(5, "C(C1", -5);
        dueEnter(5, "C(C=", -5);
        dueEnter(5, "C(C(C)", -7);
        dueEnter(5, "C1#", -4);
        dueEnter(5, "CCCCCCCCCCCCCCCCCCCCCCC=", -25);
        dueEnter(5, "CCCCCCCCCCCCCCCCCCCCCCC(", -25);
    }

    private static void howeverLong() {
        CHECK.says("beginnings are looked for among all texts, however long");
        dueEnter(5, "C(C(C(C(C(C(C(C(C(C(C(C(", -25);
        dueEnter(5, "C(C(C(C(C(C(C(C(C(C(C(C=", -25);
        dueEnter(5, "C(C(C(C(C(C(C(C(C(C(C(CC", -25);
        dueEnter(5, "C(C(C(C(C(C(C(C(C(C(C(C)", -25);
        dueEnter(5, "C(C(C(C(C(C(C(C(C(C(C(()", -23);
        dueEnter(2, "CCC(", -5);
        dueEnter(2, "HHHH=", -6);
    }

    /** All lines of up to five characters, against the grammar written out in the plain model. */
    private static void everyShortLine() {
        CHECK.says("When it is no text: -1 - p");
        String alphabet = "CH(=1)2";
        int[] digits = new int[5];
        for (int length = 0; length <= 5; length++) {
            int lines = (int) Math.pow(alphabet.length(), length);
            for (int number = 0; number < lines; number++) {
                StringBuilder text = new StringBuilder();
                int rest = number;
                for (int k = 0; k < length; k++) {
                    digits[k] = rest % alphabet.length();
                    rest /= alphabet.length();
                    text.append(alphabet.charAt(digits[k]));
                }
                dueAsInModel(text.toString());
            }
        }
    }

    private static void dueAsInModel(String text) {
        PlainModel model = new PlainModel(3);
        for (char c : text.toCharArray()) {
            model.key(c);
        }
        dueEnter(3, text, model.enter());
    }

    private static void notUsedDigit() {
        CHECK.says("-100, a digit is remembered and not used at the end");
        dueEnter(5, "C1", -100);
        dueEnter(5, "C2", -100);
        dueEnter(5, "C12", -100);
        dueEnter(5, "C1CC1", 0);
        dueEnter(5, "C1CC12", -100);
        dueEnter(5, "C1CC1C1", -100);
        dueEnter(5, "C(C1)C", -100);
        dueEnter(5, "C1CC2", -100);
    }

    private static void notTheSameOrder() {
        CHECK.says("-101, the two marks of a bond do not have the same order");
        String[] links = {"", "-", "=", "#"};
        int[] orders = {1, 1, 2, 3};
        for (int k = 0; k < 4; k++) {
            for (int m = 0; m < 4; m++) {
                dueEnter(5, "C" + links[k] + "1CC" + links[m] + "1", orders[k] == orders[m] ? 0 : -101);
                dueEnter(5, "C" + links[k] + "2CC" + links[m] + "2", orders[k] == orders[m] ? 0 : -101);
            }
        }
        dueEnter(5, "C1-2CC-1C2", 0);
        dueEnter(5, "C1=2CC2C=1", -101);
    }

    private static void toItself() {
        CHECK.says("or there would be a bond from an atom to itself");
        dueEnter(5, "C11", -101);
        dueEnter(5, "C22", -101);
        dueEnter(5, "C=1=1", -101);
        dueEnter(5, "C1(C)1", -101);
        dueEnter(5, "C1(C1)1", -100);
        dueEnter(5, "CC(C)11", -101);
    }

    private static void twoBonds() {
        CHECK.says("or two bonds between two atoms");
        dueEnter(5, "C1C1", -101);
        dueEnter(5, "C-1=C-1", -101);
        dueEnter(5, "C1(C1)C", -101);
        dueEnter(5, "C12CC12", -101);
        dueEnter(5, "C1CC11CC1", 0);
        dueEnter(5, "C1CC12C2", -101);
    }

    private static void moreThanCap() {
        CHECK.says("-102, there are more than CAP atoms");
        for (int cap = 2; cap <= 5; cap++) {
            dueEnter(cap, "CCCCCC".substring(0, cap), 0);
            dueEnter(cap, "CCCCCC".substring(0, cap + 1), -102);
            dueEnter(cap, "C(C)(C)(C)C(C)".substring(0, new int[] {4, 7, 10, 11}[cap - 2]), 0);
            dueEnter(cap, "C(C)(C)(C)C(C)".substring(0, new int[] {7, 10, 11, 14}[cap - 2]), -102);
        }
        dueEnter(5, "CCCCCCCCCCCCCCCCCCCCCCCC", -102);
    }

    private static void moreThanItCanHave() {
        CHECK.says("-103, an atom has more than it can have");
        dueEnter(5, "HH", 0);
        dueEnter(5, "H=H", -103);
        dueEnter(5, "HHH", -103);
        dueEnter(5, "O=O", 0);
        dueEnter(5, "O#O", -103);
        dueEnter(5, "OOO", 0);
        dueEnter(5, "O=OO", -103);
        dueEnter(5, "N#N", 0);
        dueEnter(5, "N#NN", -103);
        dueEnter(5, "NN#N", -103);
        dueEnter(5, "C(C)(C)(C)C", 0);
        dueEnter(5, "C(C)(C)(=C)C", -103);
        // Each atom counts, the first and the last one too.
        dueEnter(5, "H=C", -103);
        dueEnter(5, "C=H", -103);
        dueEnter(5, "CCCC=H", -103);
        dueEnter(5, "H=CCCC", -103);
        // The two marks of a ring count as one bond, at both ends.
        dueEnter(5, "O1CC1", 0);
        dueEnter(5, "H1CC1", -103);
        dueEnter(5, "C1CH1", -103);
        dueEnter(5, "O=1CC=1", -103);
        dueEnter(5, "C=1CO=1", -103);
    }

    private static void tableThatHasTwelve() {
        CHECK.says("-104, the species is not in the table and that has twelve");
        SpeciesRounds eleven = new SpeciesRounds(5);
        for (int s = 0; s < 11; s++) {
            Check.enter(eleven, Check.TWELVE[s]);
        }
        CHECK.due("the twelfth", Check.enter(eleven, "N#N"), 11);
        CHECK.due("the thirteenth", Check.enter(eleven, "N=N"), -104);
        CHECK.due("species()", eleven.species(), 12);
        SpeciesRounds twelve = Check.with(5, Check.TWELVE);
        CHECK.due("one that is there", Check.enter(twelve, "CH"), 7);
        CHECK.due("one that is not", Check.enter(twelve, "C=O"), -104);
        CHECK.due("the last one that is there", Check.enter(twelve, "N=N"), 11);
        CHECK.due("size(12)", twelve.size(12), -1);
    }

    private static void firstThatHolds() {
        CHECK.says("Otherwise the first of these that holds");
        String[] wrongFrom100 = {"HHHHHH11=1", "C11CCCCC2", "HHHHHHH1", "HH=H2", "C1=1C1"};
        for (String text : wrongFrom100) {
            dueEnter(5, text, -100);
        }
        for (String text : new String[] {"HHHHHH11", "C11CCCCC", "H=H11", "C1CCCCCC=1", "H1H1"}) {
            dueEnter(5, text, -101);
        }
        for (String text : new String[] {"HHHHHH", "H=CCCCC", "CCCCC#O"}) {
            dueEnter(5, text, -102);
        }
        // A line that is no text is not looked at further.
        for (String text : new String[] {"HHHHHH11=1(", "C1(", "CC(", "HHH("}) {
            dueEnter(5, text, -1 - text.length());
        }
        String[] full = {"CC1", "CC11", "CCCCCC", "HHH", "N#N"};
        for (int k = 0; k < full.length; k++) {
            CHECK.due("full table, '" + full[k] + "'", Check.enter(Check.with(5, Check.TWELVE), full[k]), -100 - k);
        }
    }

    private static void notThereYet() {
        CHECK.says("Otherwise the species is put into the table, if it is not there yet, and the answer is its number");
        SpeciesRounds x = new SpeciesRounds(5);
        String[] texts = {"CO", "OC", "C=O", "C(O)", "O=C", "C", "CO"};
        int[] numbers = {0, 0, 1, 0, 1, 2, 0};
        int[] counts = {1, 1, 2, 2, 2, 3, 3};
        for (int k = 0; k < texts.length; k++) {
            CHECK.due("enter() of '" + texts[k] + "'", Check.enter(x, texts[k]), numbers[k]);
            CHECK.due("species()", x.species(), counts[k]);
        }
    }

    private static void refusedChangesNothing() {
        CHECK.says("A call that is refused changes nothing but the line");
        for (int k = 0; k < NOT_TAKEN.length; k++) {
            String text = NOT_TAKEN[k];
            CHECK.dueText("after '" + text + "'", Seen.withRound(() -> peroxide(text)), Seen.withRound(() -> peroxide("")));
        }
        CHECK.dueText("after -104", Seen.of(() -> full("C#C")), Seen.of(() -> full("HH")));
    }

    private static SpeciesRounds peroxide(String text) {
        SpeciesRounds x = Check.with(5, "HOOH", "C");
        x.rule(1, 1, -1);
        x.change(0, 0, 1, 1, 0);
        x.round();
        Check.enter(x, text);
        return x;
    }

    private static SpeciesRounds full(String text) {
        SpeciesRounds x = Check.with(5, Check.TWELVE);
        Check.enter(x, text);
        return x;
    }
}
