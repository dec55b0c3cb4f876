import java.util.Random;

/** Runs of calls, the same ones each time, on the class and on the model. */
public final class ModelTest {
    private static final int RUNS = 1000, CALLS = 300;
    private static final int[] ODD_NUMBERS = {-1, -2, -5, 0, 1, 40, 41, 48, 49, 99, 100, 127, 200, 1000000, 1000001,
        Integer.MIN_VALUE, Integer.MAX_VALUE};
    private final Random random;
    private RankedEchoes real = new RankedEchoes();
    private Model model = new Model();
    private final StringBuilder trail = new StringBuilder();

    private ModelTest(long seed) {
        random = new Random(seed);
    }

    public static void main(String[] args) {
        for (int run = 0; run < RUNS && Due.wrong() == 0; run++) {
            new ModelTest(run).run();
        }
        for (int run = 0; run < 3000 && Due.wrong() == 0; run++) {
            new ModelTest(1000000 + run).compareText();
        }
        Due.end();
    }

    private void run() {
        if (random.nextInt(8) > 0) {
            layGoodText();
        }
        for (int n = 0; n < CALLS && Due.wrong() == 0; n++) {
            int kind = random.nextInt(100);
            if (kind < 40) {
                change();
            } else if (kind < 95) {
                ask();
            } else if (kind < 97) {
                layGoodText();
            } else {
                compareText();
            }
        }
        if (Due.wrong() == 0) {
            askAll();
        }
    }

    private void due(String call, long got, long want) {
        trail.append(call).append(" ");
        Due.is(call, got, want);
        if (got != want) {
            System.out.println("behind: " + trail);
        }
    }

    private int near(int least, int most) {
        if (random.nextInt(40) == 0) {
            return ODD_NUMBERS[random.nextInt(ODD_NUMBERS.length)];
        }
        if (random.nextInt(30) == 0) {
            return random.nextBoolean() ? least - 1 : most + 1;
        }
        return least + random.nextInt(most - least + 1);
    }

    private int cellNear() {
        return near(0, real.count(0) - 1);
    }

    private int powerNear() {
        return random.nextInt(3) == 0 ? near(0, 99) : near(0, 8);
    }

    private void change() {
        int i = cellNear();
        int v = powerNear();
        switch (random.nextInt(8)) {
            case 0, 1 -> due("power(" + i + ", " + v + ")", real.power(i, v), model.power(i, v));
            case 2, 3 -> {
                int is = random.nextInt(5) == 0 ? near(0, 1) : random.nextInt(3) / 2;
                due("leave(" + i + ", " + is + ")", real.leave(i, is), model.leave(i, is));
            }
            case 4 -> {
                int what = near(0, 4);
                int to = near(0, what < 2 ? 6 : what == 2 ? 13 : random.nextBoolean() ? 41 : 5);
                due("look(" + what + ", " + to + ")", real.look(what, to), model.look(what, to));
            }
            case 5 -> {
                int m = near(0, 2);
                due("mode(" + m + ")", real.mode(m), model.mode(m));
            }
            case 6 -> due("slide(" + v + ")", real.slide(v), model.slide(v));
            default -> due("undo()", real.undo(), model.undo());
        }
    }

    private void ask() {
        int i = cellNear();
        int what;
        switch (random.nextInt(12)) {
            case 0, 1 -> {
                what = near(0, 6);
                due("cell(" + i + ", " + what + ")", real.cell(i, what), model.cell(i, what));
            }
            case 2 -> {
                what = near(0, 2);
                int k = near(1, 12);
                due("ranked(" + i + ", " + what + ", " + k + ")", real.ranked(i, what, k), model.ranked(i, what, k));
            }
            case 3, 4 -> {
                int j = random.nextBoolean() ? -1 : random.nextBoolean() ? i + random.nextInt(9) - 4 : cellNear();
                due("hides(" + i + ", " + j + ")", real.hides(i, j), model.hides(i, j));
            }
            case 5 -> {
                int n = near(-1, 6);
                what = near(0, 2);
                due("bunch(" + n + ", " + what + ")", real.bunch(n, what), model.bunch(n, what));
            }
            case 6 -> {
                int n = random.nextBoolean() ? near(0, 8) : near(0, 48);
                due("enough(" + n + ")", real.enough(n), model.enough(n));
            }
            case 7 -> {
                int v = random.nextBoolean() ? near(0, 8) : near(0, 99);
                due("noise(" + v + ")", real.noise(v), model.noise(v));
            }
            case 8 -> askOdds();
            case 9, 10 -> {
                int k = near(0, real.count(0) + 7);
                due("drawn(" + k + ")", real.drawn(k), model.drawn(k));
            }
            default -> {
                what = near(0, 11);
                due("count(" + what + ")", real.count(what), model.count(what));
            }
        }
    }

    /** Seldom where the model's way of counting is slow. */
    private void askOdds() {
        if (real.count(6) == 0 && real.count(1) > 4 && random.nextInt(20) > 0) {
            return;
        }
        int part = near(0, 1);
        due("odds(" + part + ")", real.odds(part), model.odds(part));
        int a = random.nextBoolean() ? near(1, 20) : near(1, 1000000);
        int b = random.nextBoolean() ? near(1, 100) : near(1, 1000000);
        due("factor(" + a + ", " + b + ")", real.factor(a, b), model.factor(a, b));
        long above = real.odds(0);
        long below = real.odds(1);
        if (above >= 1 && below <= 1000000) {
            due("factor just so", real.factor((int) above, (int) below), model.factor((int) above, (int) below));
        }
    }

    private void askAll() {
        for (int i = 0; i < real.count(0); i++) {
            for (int what = 0; what < 7; what++) {
                due("cell(" + i + ", " + what + ")", real.cell(i, what), model.cell(i, what));
            }
        }
        for (int k = 0; k < real.count(0) + 8; k++) {
            due("drawn(" + k + ")", real.drawn(k), model.drawn(k));
        }
        for (int what = 0; what < 12; what++) {
            due("count(" + what + ")", real.count(what), model.count(what));
        }
    }

    // ---- texts

    private void writeText(String text) {
        due("wipe()", real.wipe(), model.wipe());
        for (char letter : text.toCharArray()) {
            due("write(" + letter + ")", real.write(letter), model.write(letter));
        }
    }

    private void layGoodText() {
        String text = "";
        while (!text.contains("cell")) {
            text = goodText();
        }
        writeText(text);
        due("fault()", real.fault(), model.fault());
        due("lay()", real.lay(), model.lay());
    }

    private void compareText() {
        StringBuilder text = new StringBuilder(goodText());
        for (int n = random.nextInt(3); n > 0 && text.length() > 0; n--) {
            spoil(text, random.nextInt(text.length()));
        }
        writeText(text.toString());
        due("fault()", real.fault(), model.fault());
        due("lay()", real.lay(), model.lay());
        askAll();
    }

    private void spoil(StringBuilder text, int at) {
        String letters = "0123456789,;; celokmdibthrs";
        char letter = letters.charAt(random.nextInt(letters.length()));
        switch (random.nextInt(4)) {
            case 0 -> text.deleteCharAt(at);
            case 1 -> text.insert(at, letter);
            case 2 -> text.setCharAt(at, letter);
            default -> text.setLength(at);
        }
    }

    private String goodText() {
        StringBuilder text = new StringBuilder();
        for (int items = 1 + random.nextInt(5); items > 0; items--) {
            switch (random.nextInt(5)) {
                case 0 -> text.append("mode ").append(new String[] {"both", "more", "less"}[random.nextInt(3)]);
                case 1 -> text.append("look ").append(lookNumbers());
                case 2 -> text.append("dice ").append(weights());
                default -> text.append("cell ").append(powers());
            }
            text.append(";");
        }
        return text.toString();
    }

    private String powers() {
        StringBuilder list = new StringBuilder();
        int most = random.nextBoolean() ? 4 : random.nextBoolean() ? 100 : 12;
        int n = random.nextInt(4) == 0 ? random.nextInt(50) : random.nextInt(20);
        for (int k = 0; k <= n; k++) {
            int v = random.nextInt(most);
            list.append(k == 0 ? "" : ",").append(v < 10 && random.nextInt(30) == 0 ? "0" : "").append(v);
        }
        return list.toString();
    }

    private String lookNumbers() {
        int wrong = random.nextInt(20);
        int[] most = {6, 3, 12, random.nextBoolean() ? 40 : 4, random.nextBoolean() ? 40 : 4};
        StringBuilder list = new StringBuilder();
        for (int what = 0; what < 5; what++) {
            int least = what == 1 ? 0 : 1;
            int v = least + random.nextInt(most[what] - least + 1);
            list.append(what == 0 ? "" : ",").append(wrong == what ? most[what] + 1 : v);
        }
        return list.toString();
    }

    private String weights() {
        int n = 2 + random.nextInt(7);
        int left = random.nextInt(10) == 0 ? random.nextInt(19) : 1 + random.nextInt(16);
        int[] weights = new int[n];
        for (; left > 0; left--) {
            weights[random.nextInt(n)]++;
        }
        StringBuilder list = new StringBuilder();
        for (int v = 0; v < n; v++) {
            list.append(v == 0 ? "" : ",").append(weights[v]);
        }
        return list.toString();
    }
}
