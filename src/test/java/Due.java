/** Compares answers with those that are due, and ends a test. */
final class Due {
    private static int wrong = 0;
    private static int looked = 0;
    private static int sentences = 0;
    private static int lookedBefore = 0;
    private static String sentence = "";

    private Due() {
    }

    /** What is compared from here on is what this sentence of the document says. */
    static void sentence(String words) {
        endSentence();
        sentences++;
        sentence = "\"" + words + "\" ";
    }

    /** A sentence behind which nothing was compared has no test. */
    private static void endSentence() {
        if (sentences > 0 && looked == lookedBefore) {
            wrong++;
            System.out.println(sentence + "has no test");
        }
        lookedBefore = looked;
    }

    static void is(String call, long got, long want) {
        looked++;
        if (got != want) {
            tell(call + " answered " + got + ", due is " + want);
        }
    }

    private static void tell(String fault) {
        wrong++;
        if (wrong <= 40) {
            System.out.println(sentence + fault);
        }
    }

    static void holds(String what, boolean so) {
        is(what, so ? 1 : 0, 1);
    }

    static void same(String what, String got, String want) {
        looked++;
        if (!got.equals(want)) {
            tell(what + " answered " + got + ", due is " + want);
        }
    }

    static int wrong() {
        return wrong;
    }

    static void end() {
        endSentence();
        String of = sentences > 0 ? " of " + sentences + " sentences" : "";
        System.out.println(wrong == 0 ? "all " + looked + " answers" + of + " are as due" : wrong + " answers are not as due");
        sentences = 0;
        if (wrong != 0) {
            System.exit(1);
        }
    }

    static void write(RankedEchoes x, String text) {
        for (int k = 0; k < text.length(); k++) {
            x.write(text.charAt(k));
        }
    }

    static RankedEchoes written(String text) {
        RankedEchoes x = new RankedEchoes();
        write(x, text);
        return x;
    }

    /** A new object on which the text is laid. */
    static RankedEchoes laid(String text) {
        RankedEchoes x = written(text);
        holds("lay of " + text, x.lay() > 0);
        return x;
    }

    static String drawing(RankedEchoes x) {
        StringBuilder all = new StringBuilder();
        int letter = x.drawn(0);
        for (int k = 1; k < 100 && letter >= 0; k++) {
            all.append((char) letter);
            letter = x.drawn(k);
        }
        return all.toString();
    }

    static void drawn(String what, RankedEchoes x, String want) {
        same(what + ", drawn", drawing(x), want);
    }

    static String powers(RankedEchoes x) {
        StringBuilder all = new StringBuilder();
        for (int i = 0; i < x.count(0); i++) {
            all.append(i == 0 ? "" : ",").append(x.cell(i, 0));
        }
        return all.toString();
    }

    /** An item of n cells: 5 and then powers of one figure, 1, 2, .. 9, 0, 1, .. */
    static String cells(int n) {
        StringBuilder text = new StringBuilder("cell 5");
        for (int k = 1; k < n; k++) {
            text.append(",").append(k % 10);
        }
        return text.append(";").toString();
    }
}
