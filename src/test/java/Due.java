/** Compares answers with those that are due, and ends a test. */
final class Due {
    private static int wrong = 0;
    private static int looked = 0;

    private Due() {
    }

    static void is(String call, long got, long want) {
        looked++;
        if (got != want) {
            wrong++;
            if (wrong <= 40) {
                System.out.println(call + " answered " + got + ", due is " + want);
            }
        }
    }

    static void holds(String what, boolean so) {
        is(what, so ? 1 : 0, 1);
    }

    static int wrong() {
        return wrong;
    }

    static void end() {
        System.out.println(wrong == 0 ? "all " + looked + " answers are as due" : wrong + " answers are not as due");
        if (wrong != 0) {
            System.exit(1);
        }
    }

    static void write(RankedEchoes x, String text) {
        for (int k = 0; k < text.length(); k++) {
            x.write(text.charAt(k));
        }
    }

    /** A new object on which the text is laid. */
    static RankedEchoes laid(String text) {
        RankedEchoes x = new RankedEchoes();
        write(x, text);
        holds("lay of " + text, x.lay() > 0);
        return x;
    }

    static String drawing(RankedEchoes x) {
        StringBuilder all = new StringBuilder();
        for (int k = 0; k < 100 && x.drawn(k) >= 0; k++) {
            all.append((char) x.drawn(k));
        }
        return all.toString();
    }

    static void drawn(String what, RankedEchoes x, String want) {
        String got = drawing(x);
        if (!got.equals(want)) {
            System.out.println(what + ": drawn is " + got + ", due is " + want);
        }
        is(what, got.equals(want) ? 1 : 0, 1);
    }
}
