/** Compares answers with those that are due, and ends a test with exit code 1 if one was wrong. */
final class Check {
    /** As many species as the table holds; each can be typed, and N#N is none of them. */
    static final String[] TWELVE = {"H", "O", "N", "C", "HH", "HO", "HN", "HC", "OO", "O=O", "NN", "N=N"};
    /** Numbers that are nothing's number, those among them that a narrower type would take for a small one. */
    static final int[] FAR = {Integer.MIN_VALUE, Integer.MIN_VALUE + 1, -65536, -256, -40, -2, 40, 256, 65536,
        Integer.MAX_VALUE - 1, Integer.MAX_VALUE};

    private static final int MOST_PRINTED = 40;

    private int compared;
    private int wrong;
    private String sentence;
    private String toldSentence;

    /** The answers from here on are due by this sentence of the document. */
    void says(String words) {
        sentence = words;
    }

    void due(String call, long got, long want) {
        compared++;
        if (got != want) {
            wrong++;
            if (wrong <= MOST_PRINTED) {
                tellSentence();
                System.out.println(call + " answered " + got + ", due is " + want);
            }
        }
    }

    private void tellSentence() {
        if (sentence != null && !sentence.equals(toldSentence)) {
            System.out.println("\"" + sentence + "\":");
            toldSentence = sentence;
        }
    }

    void due(String call, boolean got, boolean want) {
        due(call, got ? 1 : 0, want ? 1 : 0);
    }

    boolean failed() {
        return wrong > 0;
    }

    void end() {
        System.out.println(wrong == 0 ? compared + " answers are as due"
                : wrong + " of " + compared + " answers are not as due");
        if (wrong != 0) {
            System.exit(1);
        }
    }

    static void type(SpeciesRounds x, String text) {
        for (char c : text.toCharArray()) {
            x.key(c);
        }
    }

    static int enter(SpeciesRounds x, String text) {
        type(x, text);
        return x.enter();
    }

    static SpeciesRounds with(int cap, String... texts) {
        SpeciesRounds x = new SpeciesRounds(cap);
        for (String text : texts) {
            enter(x, text);
        }
        return x;
    }

    /** The numbers of the key, as size, atom and bond tell them. */
    static String wordOf(SpeciesRounds x, int s) {
        StringBuilder word = new StringBuilder();
        int n = x.size(s);
        word.append(n).append(':');
        for (int i = 0; i < n; i++) {
            word.append(x.atom(s, i));
        }
        word.append(':');
        for (int j = 1; j < n; j++) {
            for (int i = 0; i < j; i++) {
                word.append(x.bond(s, i, j));
            }
        }
        return word.toString();
    }

    void dueText(String what, String got, String want) {
        due(what + " is '" + got + "', '" + want + "' is due: the same", got.equals(want), true);
    }

    void dueWord(SpeciesRounds x, int s, String want) {
        dueText("word of species " + s, wordOf(x, s), want);
    }

    void dueReaction(SpeciesRounds x, int i, int... want) {
        for (int k = 0; k < want.length; k++) {
            due("reaction(" + i + ", " + k + ")", x.reaction(i, k), want[k]);
        }
    }
}
